def q_c_X4_slotAt (k4 : Nat → ClassId) (lo lnow lsl ltr lcl lba ldu : Nat) (n p st : Nat) (cc bc pot gr bk : Int) (sa0 : Nat → Nat) (k : Nat) : Option Value → va_W → Prop := (fun (v9 : Option Value) (w9 : va_W) => v9 = some (.ref (sa0 k)) ∧ w9 = [(lo, .inr (4, [.ref lnow, .ref lsl, .ref ltr, .ref lcl, .ref lba, .ref ldu, .int (iI (((n : Nat) : Int))), .int (iI (((p : Nat) : Int))), .int (iI (((st : Nat) : Int))), .int (iI (cc)), .int (iI (bc)), .long (lI (pot)), .long (lI (gr)), .long (lI (bk))])), (lsl, .inl (k4 3, 48, .inr (.inr (.inr (.inr (fun i => some (sa0 i)))))))])
set_option maxHeartbeats 4000000 in
set_option maxRecDepth 100000 in
theorem c_X4_slotAt (l : Launch) (D : va_G) (k4 : Nat → ClassId) (lo lnow lsl ltr lcl lba ldu : Nat) (n p st : Nat) (cc bc pot gr bk : Int) (sa0 : Nat → Nat) (k : Nat) (hk : k < 48) : zC l yX4_slotAt (zW yX4_slotAt cX4_slotAt 3 (some (.object "EnergyLedger$Slot"))) ({ frames := 0, cells := 0, slots := 0, locals := 0 } : Room) D k4 [.ref lo, .int (iI (((k : Nat) : Int)))] [(lo, .inr (4, [.ref lnow, .ref lsl, .ref ltr, .ref lcl, .ref lba, .ref ldu, .int (iI (((n : Nat) : Int))), .int (iI (((p : Nat) : Int))), .int (iI (((st : Nat) : Int))), .int (iI (cc)), .int (iI (bc)), .long (lI (pot)), .long (lI (gr)), .long (lI (bk))])), (lsl, .inl (k4 3, 48, .inr (.inr (.inr (.inr (fun i => some (sa0 i)))))))] (0) (0) (q_c_X4_slotAt k4 lo lnow lsl ltr lcl lba ldu n p st cc bc pot gr bk sa0 k) := by
  refine zC_of (cc := cX4_slotAt) (by decide) (Nat.le_of_ble_eq_true rfl) (fun pp ee ss mm bl me co AA H locs ls E hr hlocks hin G hl => ?_)
  have hl : lv_has ls 3 [(0, .ref lo), (1, .int (iI (((k : Nat) : Int))))] := hl
  refine z_iload_n E hl 1 rfl dX4_slotAt_0 rfl ?_
  refine z_if_lt (tgt := 22) E dX4_slotAt_1 (by decide) ⟨by omega, by omega⟩ (fun c_1 => absurd c_1 (by omega)) (fun c_1 => ?_)
  refine z_iload_n E hl 1 rfl dX4_slotAt_4 rfl ?_
  refine z_aload_n E hl 0 rfl dX4_slotAt_5 rfl ?_
  refine kg_X4_18 E G 0 rfl rfl dX4_slotAt_6 ?_
  refine z_alen E G 1 3 rfl rfl dX4_slotAt_9 ?_
  refine z_icmp_ge (tgt := 22) E dX4_slotAt_10 (by decide) ⟨by omega, by omega⟩ ⟨by omega, by omega⟩ (fun c_10 => absurd c_10 (by omega)) (fun c_10 => ?_)
  refine z_aload_n E hl 0 rfl dX4_slotAt_13 rfl ?_
  refine kg_X4_18 E G 0 rfl rfl dX4_slotAt_14 ?_
  refine z_iload_n E hl 1 rfl dX4_slotAt_17 rfl ?_
  refine z_aald E G 1 rfl (k) rfl (by omega) (by decide) ((sa0 k)) rfl dX4_slotAt_18 ?_
  refine z_goto (tgt := 23) E dX4_slotAt_19 (by decide) ?_
  refine z_astore_n E [(2, .ref (sa0 k)), (0, .ref lo), (1, .int (iI (((k : Nat) : Int))))] dX4_slotAt_23 rfl hl (by decide) rfl (fun ls hl => ?_)
  refine z_aload_n E hl 0 rfl dX4_slotAt_24 rfl ?_
  refine z_ifnull E dX4_slotAt_25 ?_
  refine z_aload_n E hl 0 rfl dX4_slotAt_28 rfl ?_
  refine z_goto (tgt := 36) E dX4_slotAt_29 (by decide) ?_
  exact z_aret (w' := [(lo, .inr (4, [.ref lnow, .ref lsl, .ref ltr, .ref lcl, .ref lba, .ref ldu, .int (iI (((n : Nat) : Int))), .int (iI (((p : Nat) : Int))), .int (iI (((st : Nat) : Int))), .int (iI (cc)), .int (iI (bc)), .long (lI (pot)), .long (lI (gr)), .long (lI (bk))])), (lsl, .inl (k4 3, 48, .inr (.inr (.inr (.inr (fun i => some (sa0 i)))))))]) E hr (by first | exact Or.inl ⟨_, rfl⟩ | exact Or.inr ⟨_, rfl⟩) hlocks G dX4_slotAt_36 (by omega) (by omega) (zx0 rfl) ⟨rfl, rfl⟩

def q_c_X4_mix (k4 : Nat → ClassId) (d x : Int) : Option Value → va_W → Prop := (fun (v9 : Option Value) (w9 : va_W) => v9 = some (.long (lI (d * 31 + x))) ∧ w9 = [])
set_option maxHeartbeats 4000000 in
set_option maxRecDepth 100000 in
theorem c_X4_mix (l : Launch) (D : va_G) (k4 : Nat → ClassId) (d x : Int)  : zC l yX4_mix (zW yX4_mix cX4_mix 4 (some .long)) ({ frames := 0, cells := 0, slots := 0, locals := 0 } : Room) D k4 [.long (lI (d)), .long (lI (x))] [] (0) (0) (q_c_X4_mix k4 d x) := by
  refine zC_of (cc := cX4_mix) (by decide) (Nat.le_of_ble_eq_true rfl) (fun pp ee ss mm bl me co AA H locs ls E hr hlocks hin G hl => ?_)
  have hl : lv_has ls 4 [(0, .long (lI (d))), (2, .long (lI (x)))] := hl
  refine z_lload_n E hl 0 rfl dX4_mix_0 rfl ?_
  refine z_ldc2 E (n := (31)) zw_650 (by decide +kernel) dX4_mix_1 ?_
  refine z_lmul E dX4_mix_4 ?_
  refine z_lload_n E hl 1 rfl dX4_mix_5 rfl ?_
  refine z_ladd E dX4_mix_6 ?_
  exact z_lret (w' := []) (v := ((d) * (31)) + (x)) E hr hlocks G dX4_mix_7 (by omega) (by omega) (zx0 rfl) ⟨rfl, rfl⟩

def q_c_X4_mixSlot (k4 : Nat → ClassId) (lo lnow lsl ltr lcl lba ldu : Nat) (n p st : Nat) (cc bc pot gr bk : Int) (o ot og ou of : Nat) (cb ca : Int) (g u f : Nat → Int) (d : Int) : Option Value → va_W → Prop := (fun (v9 : Option Value) (w9 : va_W) => v9 = some (.long (lI (mixM g u f (d * 31 + cb) n))) ∧ w9 = [(lo, .inr (4, [.ref lnow, .ref lsl, .ref ltr, .ref lcl, .ref lba, .ref ldu, .int (iI (((n : Nat) : Int))), .int (iI (((p : Nat) : Int))), .int (iI (((st : Nat) : Int))), .int (iI (cc)), .int (iI (bc)), .long (lI (pot)), .long (lI (gr)), .long (lI (bk))])), (o, .inr (2, [.ref ot, .ref og, .ref ou, .ref of, .int (iI (cb)), .int (iI (ca))])), (og, .inl (k4 0, 6, .inl (fun i9 => iI (g i9)))), (ou, .inl (k4 0, 6, .inl (fun i9 => iI (u i9)))), (of, .inl (k4 0, 48, .inl (fun i9 => iI (f i9))))])
set_option maxHeartbeats 4000000 in
set_option maxRecDepth 100000 in
theorem c_X4_mixSlot (l : Launch) (D : va_G) (k4 : Nat → ClassId) (lo lnow lsl ltr lcl lba ldu : Nat) (n p st : Nat) (cc bc pot gr bk : Int) (o ot og ou of : Nat) (cb ca : Int) (g u f : Nat → Int) (d : Int) (hn : n ≤ 6) (hg : rdOK g) (hu : rdOK u) (hf : flOK f) (hcb : 0 ≤ cb ∧ cb ≤ 20000) : zC l yX4_mixSlot (zW yX4_mixSlot cX4_mixSlot 8 (some .long)) ({ frames := 2, cells := 0, slots := 0, locals := 43 } : Room) D k4 [.ref lo, .long (lI (d)), .ref o] [(lo, .inr (4, [.ref lnow, .ref lsl, .ref ltr, .ref lcl, .ref lba, .ref ldu, .int (iI (((n : Nat) : Int))), .int (iI (((p : Nat) : Int))), .int (iI (((st : Nat) : Int))), .int (iI (cc)), .int (iI (bc)), .long (lI (pot)), .long (lI (gr)), .long (lI (bk))])), (o, .inr (2, [.ref ot, .ref og, .ref ou, .ref of, .int (iI (cb)), .int (iI (ca))])), (og, .inl (k4 0, 6, .inl (fun i9 => iI (g i9)))), (ou, .inl (k4 0, 6, .inl (fun i9 => iI (u i9)))), (of, .inl (k4 0, 48, .inl (fun i9 => iI (f i9))))] (0) (0) (q_c_X4_mixSlot k4 lo lnow lsl ltr lcl lba ldu n p st cc bc pot gr bk o ot og ou of cb ca g u f d) := by
  refine zC_of (cc := cX4_mixSlot) (by decide) (Nat.le_of_ble_eq_true rfl) (fun pp ee ss mm bl me co AA H locs ls E hr hlocks hin G hl => ?_)
  have hl : lv_has ls 8 [(0, .ref lo), (1, .long (lI (d))), (3, .ref o)] := hl
  refine z_lload_n E hl 1 rfl dX4_mixSlot_0 rfl ?_
  refine z_aload_n E hl 2 rfl dX4_mixSlot_1 rfl ?_
  refine kg_X4_136 E G 1 rfl rfl dX4_mixSlot_2 ?_
  refine z_i2l E dX4_mixSlot_5 ⟨by omega, by omega⟩ ?_
  refine z_callS E G hl.1 (c_X4_mix l D k4 d cb ) kS_X4_209 ⟨rfl, rfl, Nat.le_of_ble_eq_true rfl, Nat.le_of_ble_eq_true rfl⟩ [] rfl (by decide) rfl rfl (Nat.le_of_ble_eq_true rfl) dX4_mixSlot_6 ⟨by first | exact Nat.le_of_ble_eq_true rfl | omega, by first | exact Nat.le_of_ble_eq_true rfl | omega⟩ (fun v9 w9 H locs hq G => ?_)
  obtain ⟨rfl, rfl⟩ := hq
  refine W.eq (g2 := F0 mm 9 ls [.long (lI (d * 31 + cb))]) rfl ?_
  have G : zG D AA ss.heap [(lo, .inr (4, [.ref lnow, .ref lsl, .ref ltr, .ref lcl, .ref lba, .ref ldu, .int (iI (((n : Nat) : Int))), .int (iI (((p : Nat) : Int))), .int (iI (((st : Nat) : Int))), .int (iI (cc)), .int (iI (bc)), .long (lI (pot)), .long (lI (gr)), .long (lI (bk))])), (o, .inr (2, [.ref ot, .ref og, .ref ou, .ref of, .int (iI (cb)), .int (iI (ca))])), (og, .inl (k4 0, 6, .inl (fun i9 => iI (g i9)))), (ou, .inl (k4 0, 6, .inl (fun i9 => iI (u i9)))), (of, .inl (k4 0, 48, .inl (fun i9 => iI (f i9))))] H locs := G
  refine z_lstore E [(4, .long (lI (d * 31 + cb))), (0, .ref lo), (1, .long (lI (d))), (3, .ref o)] dX4_mixSlot_9 hl (by decide) rfl (fun ls hl => ?_)
  refine z_iconst E dX4_mixSlot_11 ?_
  refine z_istore E [(6, .int (iI (0))), (4, .long (lI (d * 31 + cb))), (0, .ref lo), (1, .long (lI (d))), (3, .ref o)] dX4_mixSlot_12 hl (by decide) rfl (fun ls hl => ?_)
  have hp14_1 : ∀ (n9 : Nat) (j : Nat) (H : Heap) (locs : List Loc) (ls : Array Slot), (n - j < n9) → (j ≤ n) → zG D AA ss.heap [(lo, .inr (4, [.ref lnow, .ref lsl, .ref ltr, .ref lcl, .ref lba, .ref ldu, .int (iI (((n : Nat) : Int))), .int (iI (((p : Nat) : Int))), .int (iI (((st : Nat) : Int))), .int (iI (cc)), .int (iI (bc)), .long (lI (pot)), .long (lI (gr)), .long (lI (bk))])), (o, .inr (2, [.ref ot, .ref og, .ref ou, .ref of, .int (iI (cb)), .int (iI (ca))])), (og, .inl (k4 0, 6, .inl (fun i9 => iI (g i9)))), (ou, .inl (k4 0, 6, .inl (fun i9 => iI (u i9)))), (of, .inl (k4 0, 48, .inl (fun i9 => iI (f i9))))] H locs → lv_has ls 8 [(0, .ref lo), (1, .long (lI (d))), (3, .ref o), (4, .long (lI (mixM g u f (d * 31 + cb) j))), (6, .int (iI (((j : Nat) : Int))))] → W pp l ee ({ frames := 2, cells := 0, slots := 0, locals := 43 } : Room) ss mm ([.ref lo, .long (lI (d)), .ref o] : List Value).toArray bl me co H locs (0) (0) (MQ bl (zQ D [(lo, .inr (4, [.ref lnow, .ref lsl, .ref ltr, .ref lcl, .ref lba, .ref ldu, .int (iI (((n : Nat) : Int))), .int (iI (((p : Nat) : Int))), .int (iI (((st : Nat) : Int))), .int (iI (cc)), .int (iI (bc)), .long (lI (pot)), .long (lI (gr)), .long (lI (bk))])), (o, .inr (2, [.ref ot, .ref og, .ref ou, .ref of, .int (iI (cb)), .int (iI (ca))])), (og, .inl (k4 0, 6, .inl (fun i9 => iI (g i9)))), (ou, .inl (k4 0, 6, .inl (fun i9 => iI (u i9)))), (of, .inl (k4 0, 48, .inl (fun i9 => iI (f i9))))] AA (q_c_X4_mixSlot k4 lo lnow lsl ltr lcl lba ldu n p st cc bc pot gr bk o ot og ou of cb ca g u f d)) ([.ref lo, .long (lI (d)), .ref o] : List Value).toArray ss (0) (0) AA) (F0 mm 14 ls []) := by
    intro n9
    induction n9 with
    | zero => intro j H locs ls hn9 hj G hl; exact absurd hn9 (by omega)
    | succ n9 ih =>
      intro j H locs ls hn9 hj G hl
      have ih14_1 := @ih
      refine z_iload E hl 4 rfl dX4_mixSlot_14 ?_
      refine z_aload_n E hl 0 rfl dX4_mixSlot_16 rfl ?_
      refine kg_X4_41 E G 0 rfl rfl dX4_mixSlot_17 ?_
      refine z_icmp_ge (tgt := 95) E dX4_mixSlot_20 (by decide) ⟨by omega, by omega⟩ ⟨by omega, by omega⟩ (fun c_20 => ?_) (fun c_20 => ?_)
      · skip
        obtain rfl : j = n := by omega
        refine z_lload E hl 3 rfl dX4_mixSlot_95 ?_
        exact z_lret (w' := [(lo, .inr (4, [.ref lnow, .ref lsl, .ref ltr, .ref lcl, .ref lba, .ref ldu, .int (iI (((j : Nat) : Int))), .int (iI (((p : Nat) : Int))), .int (iI (((st : Nat) : Int))), .int (iI (cc)), .int (iI (bc)), .long (lI (pot)), .long (lI (gr)), .long (lI (bk))])), (o, .inr (2, [.ref ot, .ref og, .ref ou, .ref of, .int (iI (cb)), .int (iI (ca))])), (og, .inl (k4 0, 6, .inl (fun i9 => iI (g i9)))), (ou, .inl (k4 0, 6, .inl (fun i9 => iI (u i9)))), (of, .inl (k4 0, 48, .inl (fun i9 => iI (f i9))))]) (v := mixM g u f (d * 31 + cb) j) E hr hlocks G dX4_mixSlot_97 (by omega) (by omega) (zx0 rfl) ⟨rfl, rfl⟩
      · skip
        have b1 := hg j (by omega)
        have b2 := hu j (by omega)
        refine z_lload E hl 3 rfl dX4_mixSlot_23 ?_
        refine z_aload_n E hl 2 rfl dX4_mixSlot_25 rfl ?_
        refine kg_X4_124 E G 1 rfl rfl dX4_mixSlot_26 ?_
        refine z_iload E hl 4 rfl dX4_mixSlot_29 ?_
        refine z_callS E G hl.1 (c_X4_at l D k4 og 6 g j (by omega) (by decide)) kS_X4_74 ⟨rfl, rfl, Nat.le_of_ble_eq_true rfl, Nat.le_of_ble_eq_true rfl⟩ [2] rfl (by decide) rfl rfl (Nat.le_of_ble_eq_true rfl) dX4_mixSlot_31 ⟨by first | exact Nat.le_of_ble_eq_true rfl | omega, by first | exact Nat.le_of_ble_eq_true rfl | omega⟩ (fun v9 w9 H locs hq G => ?_)
        obtain ⟨rfl, rfl⟩ := hq
        refine W.eq (g2 := F0 mm 34 ls [.int (iI (g j)), .long (lI (mixM g u f (d * 31 + cb) j))]) rfl ?_
        have G : zG D AA ss.heap [(lo, .inr (4, [.ref lnow, .ref lsl, .ref ltr, .ref lcl, .ref lba, .ref ldu, .int (iI (((n : Nat) : Int))), .int (iI (((p : Nat) : Int))), .int (iI (((st : Nat) : Int))), .int (iI (cc)), .int (iI (bc)), .long (lI (pot)), .long (lI (gr)), .long (lI (bk))])), (o, .inr (2, [.ref ot, .ref og, .ref ou, .ref of, .int (iI (cb)), .int (iI (ca))])), (og, .inl (k4 0, 6, .inl (fun i9 => iI (g i9)))), (ou, .inl (k4 0, 6, .inl (fun i9 => iI (u i9)))), (of, .inl (k4 0, 48, .inl (fun i9 => iI (f i9))))] H locs := G
        refine z_i2l E dX4_mixSlot_34 ⟨by omega, by omega⟩ ?_
        refine z_callS E G hl.1 (c_X4_mix l D k4 (mixM g u f (d * 31 + cb) j) (g j) ) kS_X4_209 ⟨rfl, rfl, Nat.le_of_ble_eq_true rfl, Nat.le_of_ble_eq_true rfl⟩ [] rfl (by decide) rfl rfl (Nat.le_of_ble_eq_true rfl) dX4_mixSlot_35 ⟨by first | exact Nat.le_of_ble_eq_true rfl | omega, by first | exact Nat.le_of_ble_eq_true rfl | omega⟩ (fun v9 w9 H locs hq G => ?_)
        obtain ⟨rfl, rfl⟩ := hq
        refine W.eq (g2 := F0 mm 38 ls [.long (lI ((mixM g u f (d * 31 + cb) j) * 31 + (g j)))]) rfl ?_
        have G : zG D AA ss.heap [(lo, .inr (4, [.ref lnow, .ref lsl, .ref ltr, .ref lcl, .ref lba, .ref ldu, .int (iI (((n : Nat) : Int))), .int (iI (((p : Nat) : Int))), .int (iI (((st : Nat) : Int))), .int (iI (cc)), .int (iI (bc)), .long (lI (pot)), .long (lI (gr)), .long (lI (bk))])), (o, .inr (2, [.ref ot, .ref og, .ref ou, .ref of, .int (iI (cb)), .int (iI (ca))])), (og, .inl (k4 0, 6, .inl (fun i9 => iI (g i9)))), (ou, .inl (k4 0, 6, .inl (fun i9 => iI (u i9)))), (of, .inl (k4 0, 48, .inl (fun i9 => iI (f i9))))] H locs := G
        refine z_lstore E [(4, .long (lI ((mixM g u f (d * 31 + cb) j) * 31 + (g j)))), (0, .ref lo), (1, .long (lI (d))), (3, .ref o), (6, .int (iI (((j : Nat) : Int))))] dX4_mixSlot_38 hl (by decide) rfl (fun ls hl => ?_)
        refine z_lload E hl 0 rfl dX4_mixSlot_40 ?_
        refine z_aload_n E hl 3 rfl dX4_mixSlot_42 rfl ?_
        refine kg_X4_121 E G 1 rfl rfl dX4_mixSlot_43 ?_
        refine z_iload E hl 4 rfl dX4_mixSlot_46 ?_
        refine z_callS E G hl.1 (c_X4_at l D k4 ou 6 u j (by omega) (by decide)) kS_X4_74 ⟨rfl, rfl, Nat.le_of_ble_eq_true rfl, Nat.le_of_ble_eq_true rfl⟩ [3] rfl (by decide) rfl rfl (Nat.le_of_ble_eq_true rfl) dX4_mixSlot_48 ⟨by first | exact Nat.le_of_ble_eq_true rfl | omega, by first | exact Nat.le_of_ble_eq_true rfl | omega⟩ (fun v9 w9 H locs hq G => ?_)
        obtain ⟨rfl, rfl⟩ := hq
        refine W.eq (g2 := F0 mm 51 ls [.int (iI (u j)), .long (lI ((mixM g u f (d * 31 + cb) j) * 31 + (g j)))]) rfl ?_
        have G : zG D AA ss.heap [(lo, .inr (4, [.ref lnow, .ref lsl, .ref ltr, .ref lcl, .ref lba, .ref ldu, .int (iI (((n : Nat) : Int))), .int (iI (((p : Nat) : Int))), .int (iI (((st : Nat) : Int))), .int (iI (cc)), .int (iI (bc)), .long (lI (pot)), .long (lI (gr)), .long (lI (bk))])), (o, .inr (2, [.ref ot, .ref og, .ref ou, .ref of, .int (iI (cb)), .int (iI (ca))])), (og, .inl (k4 0, 6, .inl (fun i9 => iI (g i9)))), (ou, .inl (k4 0, 6, .inl (fun i9 => iI (u i9)))), (of, .inl (k4 0, 48, .inl (fun i9 => iI (f i9))))] H locs := G
        refine z_i2l E dX4_mixSlot_51 ⟨by omega, by omega⟩ ?_
        refine z_callS E G hl.1 (c_X4_mix l D k4 ((mixM g u f (d * 31 + cb) j) * 31 + g j) (u j) ) kS_X4_209 ⟨rfl, rfl, Nat.le_of_ble_eq_true rfl, Nat.le_of_ble_eq_true rfl⟩ [] rfl (by decide) rfl rfl (Nat.le_of_ble_eq_true rfl) dX4_mixSlot_52 ⟨by first | exact Nat.le_of_ble_eq_true rfl | omega, by first | exact Nat.le_of_ble_eq_true rfl | omega⟩ (fun v9 w9 H locs hq G => ?_)
        obtain ⟨rfl, rfl⟩ := hq
        refine W.eq (g2 := F0 mm 55 ls [.long (lI (((mixM g u f (d * 31 + cb) j) * 31 + g j) * 31 + (u j)))]) rfl ?_
        have G : zG D AA ss.heap [(lo, .inr (4, [.ref lnow, .ref lsl, .ref ltr, .ref lcl, .ref lba, .ref ldu, .int (iI (((n : Nat) : Int))), .int (iI (((p : Nat) : Int))), .int (iI (((st : Nat) : Int))), .int (iI (cc)), .int (iI (bc)), .long (lI (pot)), .long (lI (gr)), .long (lI (bk))])), (o, .inr (2, [.ref ot, .ref og, .ref ou, .ref of, .int (iI (cb)), .int (iI (ca))])), (og, .inl (k4 0, 6, .inl (fun i9 => iI (g i9)))), (ou, .inl (k4 0, 6, .inl (fun i9 => iI (u i9)))), (of, .inl (k4 0, 48, .inl (fun i9 => iI (f i9))))] H locs := G
        refine z_lstore E [(4, .long (lI (((mixM g u f (d * 31 + cb) j) * 31 + g j) * 31 + (u j)))), (0, .ref lo), (1, .long (lI (d))), (3, .ref o), (6, .int (iI (((j : Nat) : Int))))] dX4_mixSlot_55 hl (by decide) rfl (fun ls hl => ?_)
        refine z_iconst E dX4_mixSlot_57 ?_
        refine z_istore E [(7, .int (iI (0))), (4, .long (lI (((mixM g u f (d * 31 + cb) j) * 31 + g j) * 31 + (u j)))), (0, .ref lo), (1, .long (lI (d))), (3, .ref o), (6, .int (iI (((j : Nat) : Int))))] dX4_mixSlot_58 hl (by decide) rfl (fun ls hl => ?_)
        have hp60_2 : ∀ (n9 : Nat) (k : Nat) (H : Heap) (locs : List Loc) (ls : Array Slot), (8 - k < n9) → (k ≤ 8) → zG D AA ss.heap [(lo, .inr (4, [.ref lnow, .ref lsl, .ref ltr, .ref lcl, .ref lba, .ref ldu, .int (iI (((n : Nat) : Int))), .int (iI (((p : Nat) : Int))), .int (iI (((st : Nat) : Int))), .int (iI (cc)), .int (iI (bc)), .long (lI (pot)), .long (lI (gr)), .long (lI (bk))])), (o, .inr (2, [.ref ot, .ref og, .ref ou, .ref of, .int (iI (cb)), .int (iI (ca))])), (og, .inl (k4 0, 6, .inl (fun i9 => iI (g i9)))), (ou, .inl (k4 0, 6, .inl (fun i9 => iI (u i9)))), (of, .inl (k4 0, 48, .inl (fun i9 => iI (f i9))))] H locs → lv_has ls 8 [(0, .ref lo), (1, .long (lI (d))), (3, .ref o), (4, .long (lI (mixF f j (((mixM g u f (d * 31 + cb) j) * 31 + g j) * 31 + u j) k))), (6, .int (iI (((j : Nat) : Int)))), (7, .int (iI (((k : Nat) : Int))))] → W pp l ee ({ frames := 2, cells := 0, slots := 0, locals := 43 } : Room) ss mm ([.ref lo, .long (lI (d)), .ref o] : List Value).toArray bl me co H locs (0) (0) (MQ bl (zQ D [(lo, .inr (4, [.ref lnow, .ref lsl, .ref ltr, .ref lcl, .ref lba, .ref ldu, .int (iI (((n : Nat) : Int))), .int (iI (((p : Nat) : Int))), .int (iI (((st : Nat) : Int))), .int (iI (cc)), .int (iI (bc)), .long (lI (pot)), .long (lI (gr)), .long (lI (bk))])), (o, .inr (2, [.ref ot, .ref og, .ref ou, .ref of, .int (iI (cb)), .int (iI (ca))])), (og, .inl (k4 0, 6, .inl (fun i9 => iI (g i9)))), (ou, .inl (k4 0, 6, .inl (fun i9 => iI (u i9)))), (of, .inl (k4 0, 48, .inl (fun i9 => iI (f i9))))] AA (q_c_X4_mixSlot k4 lo lnow lsl ltr lcl lba ldu n p st cc bc pot gr bk o ot og ou of cb ca g u f d)) ([.ref lo, .long (lI (d)), .ref o] : List Value).toArray ss (0) (0) AA) (F0 mm 60 ls []) := by
          intro n9
          induction n9 with
          | zero => intro k H locs ls hn9 hk G hl; exact absurd hn9 (by omega)
          | succ n9 ih =>
            intro k H locs ls hn9 hk G hl
            have ih60_2 := @ih
            refine z_iload E hl 5 rfl dX4_mixSlot_60 ?_
            refine z_bipush E dX4_mixSlot_62 (by decide) ?_
            refine z_icmp_ge (tgt := 89) E dX4_mixSlot_64 (by decide) ⟨by omega, by omega⟩ (by decide) (fun c_64 => ?_) (fun c_64 => ?_)
            · skip
              obtain rfl : k = 8 := by omega
              refine z_iinc E [(6, .int (iI (((j : Nat) : Int) + 1))), (0, .ref lo), (1, .long (lI (d))), (3, .ref o), (4, .long (lI (mixF f j (((mixM g u f (d * 31 + cb) j) * 31 + g j) * 31 + u j) 8))), (7, .int (iI (((8 : Nat) : Int))))] dX4_mixSlot_89 hl (k := 4) rfl (by decide) rfl (fun ls hl => ?_)
              refine z_goto (tgt := 14) E dX4_mixSlot_92 (by decide) ?_
              exact ih14_1 (j + 1) _ _ _ (by omega) (by omega) G (lv_sub hl [1, 2, 3, 4, 0] rfl)
            · skip
              refine z_lload E hl 3 rfl dX4_mixSlot_67 ?_
              refine z_aload_n E hl 2 rfl dX4_mixSlot_69 rfl ?_
              refine z_iload E hl 4 rfl dX4_mixSlot_70 ?_
              refine z_iload E hl 5 rfl dX4_mixSlot_72 ?_
              refine z_callV E G hl.1 (c_X2_amount l D k4 o ot og ou of cb ca f j k (by omega) (by omega)) kV_X4_169 ⟨rfl, rfl, Nat.le_of_ble_eq_true rfl, Nat.le_of_ble_eq_true rfl⟩ [1, 4] rfl (by decide) 1 2 rfl rfl rfl rfl rfl (Nat.le_of_ble_eq_true rfl) dX4_mixSlot_74 ⟨by first | exact Nat.le_of_ble_eq_true rfl | omega, by first | exact Nat.le_of_ble_eq_true rfl | omega⟩ (fun v9 w9 H locs hq G => ?_)
              obtain ⟨rfl, rfl⟩ := hq
              refine W.eq (g2 := F0 mm 77 ls [.int (iI (f (j * 8 + k))), .long (lI (mixF f j (((mixM g u f (d * 31 + cb) j) * 31 + g j) * 31 + u j) k))]) rfl ?_
              have G : zG D AA ss.heap [(lo, .inr (4, [.ref lnow, .ref lsl, .ref ltr, .ref lcl, .ref lba, .ref ldu, .int (iI (((n : Nat) : Int))), .int (iI (((p : Nat) : Int))), .int (iI (((st : Nat) : Int))), .int (iI (cc)), .int (iI (bc)), .long (lI (pot)), .long (lI (gr)), .long (lI (bk))])), (o, .inr (2, [.ref ot, .ref og, .ref ou, .ref of, .int (iI (cb)), .int (iI (ca))])), (og, .inl (k4 0, 6, .inl (fun i9 => iI (g i9)))), (ou, .inl (k4 0, 6, .inl (fun i9 => iI (u i9)))), (of, .inl (k4 0, 48, .inl (fun i9 => iI (f i9))))] H locs := G
              have b3 : -10000000 ≤ f (j * 8 + k) ∧ f (j * 8 + k) ≤ 10000000 := fl_b hf (by omega) (by omega)
              refine z_i2l E dX4_mixSlot_77 ⟨by omega, by omega⟩ ?_
              refine z_callS E G hl.1 (c_X4_mix l D k4 (mixF f j (((mixM g u f (d * 31 + cb) j) * 31 + g j) * 31 + u j) k) (f (j * 8 + k)) ) kS_X4_209 ⟨rfl, rfl, Nat.le_of_ble_eq_true rfl, Nat.le_of_ble_eq_true rfl⟩ [] rfl (by decide) rfl rfl (Nat.le_of_ble_eq_true rfl) dX4_mixSlot_78 ⟨by first | exact Nat.le_of_ble_eq_true rfl | omega, by first | exact Nat.le_of_ble_eq_true rfl | omega⟩ (fun v9 w9 H locs hq G => ?_)
              obtain ⟨rfl, rfl⟩ := hq
              refine W.eq (g2 := F0 mm 81 ls [.long (lI ((mixF f j (((mixM g u f (d * 31 + cb) j) * 31 + g j) * 31 + u j) k) * 31 + (f (j * 8 + k))))]) rfl ?_
              have G : zG D AA ss.heap [(lo, .inr (4, [.ref lnow, .ref lsl, .ref ltr, .ref lcl, .ref lba, .ref ldu, .int (iI (((n : Nat) : Int))), .int (iI (((p : Nat) : Int))), .int (iI (((st : Nat) : Int))), .int (iI (cc)), .int (iI (bc)), .long (lI (pot)), .long (lI (gr)), .long (lI (bk))])), (o, .inr (2, [.ref ot, .ref og, .ref ou, .ref of, .int (iI (cb)), .int (iI (ca))])), (og, .inl (k4 0, 6, .inl (fun i9 => iI (g i9)))), (ou, .inl (k4 0, 6, .inl (fun i9 => iI (u i9)))), (of, .inl (k4 0, 48, .inl (fun i9 => iI (f i9))))] H locs := G
              refine z_lstore E [(4, .long (lI ((mixF f j (((mixM g u f (d * 31 + cb) j) * 31 + g j) * 31 + u j) k) * 31 + (f (j * 8 + k))))), (0, .ref lo), (1, .long (lI (d))), (3, .ref o), (6, .int (iI (((j : Nat) : Int)))), (7, .int (iI (((k : Nat) : Int))))] dX4_mixSlot_81 hl (by decide) rfl (fun ls hl => ?_)
              refine z_iinc E [(7, .int (iI (((k : Nat) : Int) + 1))), (4, .long (lI ((mixF f j (((mixM g u f (d * 31 + cb) j) * 31 + g j) * 31 + u j) k) * 31 + (f (j * 8 + k))))), (0, .ref lo), (1, .long (lI (d))), (3, .ref o), (6, .int (iI (((j : Nat) : Int))))] dX4_mixSlot_83 hl (k := 5) rfl (by decide) rfl (fun ls hl => ?_)
              refine z_goto (tgt := 60) E dX4_mixSlot_86 (by decide) ?_
              exact ih60_2 (k + 1) _ _ _ (by omega) (by omega) G (lv_sub hl [2, 3, 4, 1, 5, 0] rfl)
        exact hp60_2 9 0 _ _ _ (by decide) (by decide) G (lv_sub hl [2, 3, 4, 1, 5, 0] rfl)
  exact hp14_1 (n + 1) 0 _ _ _ (by omega) (by omega) G (lv_sub hl [2, 3, 4, 1, 0] rfl)

def q_c_X4_book (k4 : Nat → ClassId) (lo lnow lsl ltr lcl lba ldu : Nat) (n p st : Nat) (cc bc pot gr bk : Int) (o ot og ou of : Nat) (cb ca : Int) (osh ork : Nat) (t f bal : Nat → Int) (sg : Int) : Option Value → va_W → Prop := (fun (v9 : Option Value) (w9 : va_W) => v9 = none ∧ w9 = [(lo, .inr (4, [.ref lnow, .ref lsl, .ref ltr, .ref lcl, .ref lba, .ref ldu, .int (iI (((n : Nat) : Int))), .int (iI (((p : Nat) : Int))), .int (iI (((st : Nat) : Int))), .int (iI (cc)), .int (iI (bc)), .long (lI (pot + bookP t f sg)), .long (lI (gr + bookG t f sg)), .long (lI (bk))])), (lba, .inl (k4 1, 6, .inr (.inl (fun i9 => lI ((bookB bal f sg n) i9))))), (o, .inr (2, [.ref ot, .ref og, .ref ou, .ref of, .int (iI (cb)), .int (iI (ca))])), (ot, .inr (3, [.ref osh, .ref ork, .int (iI (t 0)), .int (iI (t 1)), .int (iI (t 2)), .int (iI (t 3)), .int (iI (t 4)), .int (iI (t 5)), .int (iI (t 6))])), (of, .inl (k4 0, 48, .inl (fun i9 => iI (f i9))))])
set_option maxHeartbeats 4000000 in
set_option maxRecDepth 100000 in
theorem c_X4_book (l : Launch) (D : va_G) (k4 : Nat → ClassId) (lo lnow lsl ltr lcl lba ldu : Nat) (n p st : Nat) (cc bc pot gr bk : Int) (o ot og ou of : Nat) (cb ca : Int) (osh ork : Nat) (t f bal : Nat → Int) (sg : Int) (hn : n ≤ 6) (htm : tOK t) (hf : flOK f) (hsg : sg = 1 ∨ sg = -1) : zC l yX4_book (zW yX4_book cX4_book 5 none) ({ frames := 3, cells := 0, slots := 0, locals := 66 } : Room) D k4 [.ref lo, .ref o, .int (iI (sg))] [(lo, .inr (4, [.ref lnow, .ref lsl, .ref ltr, .ref lcl, .ref lba, .ref ldu, .int (iI (((n : Nat) : Int))), .int (iI (((p : Nat) : Int))), .int (iI (((st : Nat) : Int))), .int (iI (cc)), .int (iI (bc)), .long (lI (pot)), .long (lI (gr)), .long (lI (bk))])), (lba, .inl (k4 1, 6, .inr (.inl (fun i9 => lI (bal i9))))), (o, .inr (2, [.ref ot, .ref og, .ref ou, .ref of, .int (iI (cb)), .int (iI (ca))])), (ot, .inr (3, [.ref osh, .ref ork, .int (iI (t 0)), .int (iI (t 1)), .int (iI (t 2)), .int (iI (t 3)), .int (iI (t 4)), .int (iI (t 5)), .int (iI (t 6))])), (of, .inl (k4 0, 48, .inl (fun i9 => iI (f i9))))] (0) (0) (q_c_X4_book k4 lo lnow lsl ltr lcl lba ldu n p st cc bc pot gr bk o ot og ou of cb ca osh ork t f bal sg) := by
  refine zC_of (cc := cX4_book) (by decide) (Nat.le_of_ble_eq_true rfl) (fun pp ee ss mm bl me co AA H locs ls E hr hlocks hin G hl => ?_)
  have hl : lv_has ls 5 [(0, .ref lo), (1, .ref o), (2, .int (iI (sg)))] := hl
  refine z_aload_n E hl 1 rfl dX4_book_0 rfl ?_
  refine kg_X4_129 E G 2 rfl rfl dX4_book_1 ?_
  refine z_astore_n E [(3, .ref ot), (0, .ref lo), (1, .ref o), (2, .int (iI (sg)))] dX4_book_4 rfl hl (by decide) rfl (fun ls hl => ?_)
  refine z_iconst E dX4_book_5 ?_
  refine z_istore E [(4, .int (iI (0))), (3, .ref ot), (0, .ref lo), (1, .ref o), (2, .int (iI (sg)))] dX4_book_6 hl (by decide) rfl (fun ls hl => ?_)
  have hp8_1 : ∀ (n9 : Nat) (j : Nat) (H : Heap) (locs : List Loc) (ls : Array Slot), (n - j < n9) → (j ≤ n) → zG D AA ss.heap [(lo, .inr (4, [.ref lnow, .ref lsl, .ref ltr, .ref lcl, .ref lba, .ref ldu, .int (iI (((n : Nat) : Int))), .int (iI (((p : Nat) : Int))), .int (iI (((st : Nat) : Int))), .int (iI (cc)), .int (iI (bc)), .long (lI (pot)), .long (lI (gr)), .long (lI (bk))])), (lba, .inl (k4 1, 6, .inr (.inl (fun i9 => lI ((bookB bal f sg j) i9))))), (o, .inr (2, [.ref ot, .ref og, .ref ou, .ref of, .int (iI (cb)), .int (iI (ca))])), (ot, .inr (3, [.ref osh, .ref ork, .int (iI (t 0)), .int (iI (t 1)), .int (iI (t 2)), .int (iI (t 3)), .int (iI (t 4)), .int (iI (t 5)), .int (iI (t 6))])), (of, .inl (k4 0, 48, .inl (fun i9 => iI (f i9))))] H locs → lv_has ls 5 [(0, .ref lo), (1, .ref o), (2, .int (iI (sg))), (3, .ref ot), (4, .int (iI (((j : Nat) : Int))))] → W pp l ee ({ frames := 3, cells := 0, slots := 0, locals := 66 } : Room) ss mm ([.ref lo, .ref o, .int (iI (sg))] : List Value).toArray bl me co H locs (0) (0) (MQ bl (zQ D [(lo, .inr (4, [.ref lnow, .ref lsl, .ref ltr, .ref lcl, .ref lba, .ref ldu, .int (iI (((n : Nat) : Int))), .int (iI (((p : Nat) : Int))), .int (iI (((st : Nat) : Int))), .int (iI (cc)), .int (iI (bc)), .long (lI (pot)), .long (lI (gr)), .long (lI (bk))])), (lba, .inl (k4 1, 6, .inr (.inl (fun i9 => lI (bal i9))))), (o, .inr (2, [.ref ot, .ref og, .ref ou, .ref of, .int (iI (cb)), .int (iI (ca))])), (ot, .inr (3, [.ref osh, .ref ork, .int (iI (t 0)), .int (iI (t 1)), .int (iI (t 2)), .int (iI (t 3)), .int (iI (t 4)), .int (iI (t 5)), .int (iI (t 6))])), (of, .inl (k4 0, 48, .inl (fun i9 => iI (f i9))))] AA (q_c_X4_book k4 lo lnow lsl ltr lcl lba ldu n p st cc bc pot gr bk o ot og ou of cb ca osh ork t f bal sg)) ([.ref lo, .ref o, .int (iI (sg))] : List Value).toArray ss (0) (0) AA) (F0 mm 8 ls []) := by
    intro n9
    induction n9 with
    | zero => intro j H locs ls hn9 hj G hl; exact absurd hn9 (by omega)
    | succ n9 ih =>
      intro j H locs ls hn9 hj G hl
      have ih8_1 := @ih
      refine z_iload E hl 4 rfl dX4_book_8 ?_
      refine z_aload_n E hl 0 rfl dX4_book_10 rfl ?_
      refine kg_X4_41 E G 0 rfl rfl dX4_book_11 ?_
      refine z_icmp_ge (tgt := 43) E dX4_book_14 (by decide) ⟨by omega, by omega⟩ ⟨by omega, by omega⟩ (fun c_14 => ?_) (fun c_14 => ?_)
      · skip
        obtain rfl : j = n := by omega
        have b1 := bookP_b htm hf hsg
        have b2 := bookG_b htm hf hsg
        refine z_aload_n E hl 0 rfl dX4_book_43 rfl ?_
        refine z_dup E dX4_book_44 rfl ?_
        refine kg_X4_178 E G 0 rfl rfl dX4_book_45 ?_
        refine z_iload_n E hl 2 rfl dX4_book_48 rfl ?_
        refine z_aload_n E hl 3 rfl dX4_book_49 rfl ?_
        refine kg_X4_81 E G 3 rfl rfl dX4_book_50 ?_
        refine z_imul E dX4_book_53 ?_
        refine z_aload_n E hl 1 rfl dX4_book_54 rfl ?_
        refine z_iconst E dX4_book_55 ?_
        refine z_callV E G hl.1 (c_X2_sum l D k4 o ot og ou of cb ca f 2 (by decide)) kV_X4_150 ⟨rfl, rfl, Nat.le_of_ble_eq_true rfl, Nat.le_of_ble_eq_true rfl⟩ [2, 4] rfl (by decide) 2 2 rfl rfl rfl rfl rfl (Nat.le_of_ble_eq_true rfl) dX4_book_56 ⟨by first | exact Nat.le_of_ble_eq_true rfl | omega, by first | exact Nat.le_of_ble_eq_true rfl | omega⟩ (fun v9 w9 H locs hq G => ?_)
        obtain ⟨rfl, rfl⟩ := hq
        refine W.eq (g2 := F0 mm 59 ls [.int (iI (sumN (fun m => f (m * 8 + 2)) 6)), .int (iI ((sg) * (t 3))), .long (lI (pot)), .ref lo]) rfl ?_
        have G : zG D AA ss.heap [(lo, .inr (4, [.ref lnow, .ref lsl, .ref ltr, .ref lcl, .ref lba, .ref ldu, .int (iI (((j : Nat) : Int))), .int (iI (((p : Nat) : Int))), .int (iI (((st : Nat) : Int))), .int (iI (cc)), .int (iI (bc)), .long (lI (pot)), .long (lI (gr)), .long (lI (bk))])), (lba, .inl (k4 1, 6, .inr (.inl (fun i9 => lI ((bookB bal f sg j) i9))))), (o, .inr (2, [.ref ot, .ref og, .ref ou, .ref of, .int (iI (cb)), .int (iI (ca))])), (ot, .inr (3, [.ref osh, .ref ork, .int (iI (t 0)), .int (iI (t 1)), .int (iI (t 2)), .int (iI (t 3)), .int (iI (t 4)), .int (iI (t 5)), .int (iI (t 6))])), (of, .inl (k4 0, 48, .inl (fun i9 => iI (f i9))))] H locs := G
        refine z_aload_n E hl 1 rfl dX4_book_59 rfl ?_
        refine z_iconst E dX4_book_60 ?_
        refine z_callV E G hl.1 (c_X2_sum l D k4 o ot og ou of cb ca f 5 (by decide)) kV_X4_150 ⟨rfl, rfl, Nat.le_of_ble_eq_true rfl, Nat.le_of_ble_eq_true rfl⟩ [2, 4] rfl (by decide) 2 2 rfl rfl rfl rfl rfl (Nat.le_of_ble_eq_true rfl) dX4_book_61 ⟨by first | exact Nat.le_of_ble_eq_true rfl | omega, by first | exact Nat.le_of_ble_eq_true rfl | omega⟩ (fun v9 w9 H locs hq G => ?_)
        obtain ⟨rfl, rfl⟩ := hq
        refine W.eq (g2 := F0 mm 64 ls [.int (iI (sumN (fun m => f (m * 8 + 5)) 6)), .int (iI (sumN (fun m => f (m * 8 + 2)) 6)), .int (iI ((sg) * (t 3))), .long (lI (pot)), .ref lo]) rfl ?_
        have G : zG D AA ss.heap [(lo, .inr (4, [.ref lnow, .ref lsl, .ref ltr, .ref lcl, .ref lba, .ref ldu, .int (iI (((j : Nat) : Int))), .int (iI (((p : Nat) : Int))), .int (iI (((st : Nat) : Int))), .int (iI (cc)), .int (iI (bc)), .long (lI (pot)), .long (lI (gr)), .long (lI (bk))])), (lba, .inl (k4 1, 6, .inr (.inl (fun i9 => lI ((bookB bal f sg j) i9))))), (o, .inr (2, [.ref ot, .ref og, .ref ou, .ref of, .int (iI (cb)), .int (iI (ca))])), (ot, .inr (3, [.ref osh, .ref ork, .int (iI (t 0)), .int (iI (t 1)), .int (iI (t 2)), .int (iI (t 3)), .int (iI (t 4)), .int (iI (t 5)), .int (iI (t 6))])), (of, .inl (k4 0, 48, .inl (fun i9 => iI (f i9))))] H locs := G
        refine z_isub E dX4_book_64 ?_
        refine z_imul E dX4_book_65 ?_
        refine z_eq (y := bookP t f sg) rfl ?_
        refine z_i2l E dX4_book_66 ⟨by omega, by omega⟩ ?_
        refine z_ladd E dX4_book_67 ?_
        refine kp_X4_178 E G 0 rfl (Nat.le_of_ble_eq_true rfl) dX4_book_68 (fun H locs G => ?_)
        have G : zG D AA ss.heap [(lo, .inr (4, [.ref lnow, .ref lsl, .ref ltr, .ref lcl, .ref lba, .ref ldu, .int (iI (((j : Nat) : Int))), .int (iI (((p : Nat) : Int))), .int (iI (((st : Nat) : Int))), .int (iI (cc)), .int (iI (bc)), .long (lI ((pot) + (bookP t f sg))), .long (lI (gr)), .long (lI (bk))])), (lba, .inl (k4 1, 6, .inr (.inl (fun i9 => lI ((bookB bal f sg j) i9))))), (o, .inr (2, [.ref ot, .ref og, .ref ou, .ref of, .int (iI (cb)), .int (iI (ca))])), (ot, .inr (3, [.ref osh, .ref ork, .int (iI (t 0)), .int (iI (t 1)), .int (iI (t 2)), .int (iI (t 3)), .int (iI (t 4)), .int (iI (t 5)), .int (iI (t 6))])), (of, .inl (k4 0, 48, .inl (fun i9 => iI (f i9))))] H locs := G
        refine z_aload_n E hl 0 rfl dX4_book_71 rfl ?_
        refine z_dup E dX4_book_72 rfl ?_
        refine kg_X4_182 E G 0 rfl rfl dX4_book_73 ?_
        refine z_iload_n E hl 2 rfl dX4_book_76 rfl ?_
        refine z_aload_n E hl 3 rfl dX4_book_77 rfl ?_
        refine kg_X4_84 E G 3 rfl rfl dX4_book_78 ?_
        refine z_aload_n E hl 1 rfl dX4_book_81 rfl ?_
        refine z_iconst E dX4_book_82 ?_
        refine z_callV E G hl.1 (c_X2_sum l D k4 o ot og ou of cb ca f 3 (by decide)) kV_X4_150 ⟨rfl, rfl, Nat.le_of_ble_eq_true rfl, Nat.le_of_ble_eq_true rfl⟩ [2, 4] rfl (by decide) 2 2 rfl rfl rfl rfl rfl (Nat.le_of_ble_eq_true rfl) dX4_book_83 ⟨by first | exact Nat.le_of_ble_eq_true rfl | omega, by first | exact Nat.le_of_ble_eq_true rfl | omega⟩ (fun v9 w9 H locs hq G => ?_)
        obtain ⟨rfl, rfl⟩ := hq
        refine W.eq (g2 := F0 mm 86 ls [.int (iI (sumN (fun m => f (m * 8 + 3)) 6)), .int (iI (t 1)), .int (iI (sg)), .long (lI (gr)), .ref lo]) rfl ?_
        have G : zG D AA ss.heap [(lo, .inr (4, [.ref lnow, .ref lsl, .ref ltr, .ref lcl, .ref lba, .ref ldu, .int (iI (((j : Nat) : Int))), .int (iI (((p : Nat) : Int))), .int (iI (((st : Nat) : Int))), .int (iI (cc)), .int (iI (bc)), .long (lI ((pot) + (bookP t f sg))), .long (lI (gr)), .long (lI (bk))])), (lba, .inl (k4 1, 6, .inr (.inl (fun i9 => lI ((bookB bal f sg j) i9))))), (o, .inr (2, [.ref ot, .ref og, .ref ou, .ref of, .int (iI (cb)), .int (iI (ca))])), (ot, .inr (3, [.ref osh, .ref ork, .int (iI (t 0)), .int (iI (t 1)), .int (iI (t 2)), .int (iI (t 3)), .int (iI (t 4)), .int (iI (t 5)), .int (iI (t 6))])), (of, .inl (k4 0, 48, .inl (fun i9 => iI (f i9))))] H locs := G
        refine z_imul E dX4_book_86 ?_
        refine z_aload_n E hl 3 rfl dX4_book_87 rfl ?_
        refine kg_X4_87 E G 3 rfl rfl dX4_book_88 ?_
        refine z_aload_n E hl 1 rfl dX4_book_91 rfl ?_
        refine z_bipush E dX4_book_92 (by decide) ?_
        refine z_callV E G hl.1 (c_X2_sum l D k4 o ot og ou of cb ca f 6 (by decide)) kV_X4_150 ⟨rfl, rfl, Nat.le_of_ble_eq_true rfl, Nat.le_of_ble_eq_true rfl⟩ [2, 4] rfl (by decide) 2 2 rfl rfl rfl rfl rfl (Nat.le_of_ble_eq_true rfl) dX4_book_94 ⟨by first | exact Nat.le_of_ble_eq_true rfl | omega, by first | exact Nat.le_of_ble_eq_true rfl | omega⟩ (fun v9 w9 H locs hq G => ?_)
        obtain ⟨rfl, rfl⟩ := hq
        refine W.eq (g2 := F0 mm 97 ls [.int (iI (sumN (fun m => f (m * 8 + 6)) 6)), .int (iI (t 2)), .int (iI ((t 1) * (sumN (fun m => f (m * 8 + 3)) 6))), .int (iI (sg)), .long (lI (gr)), .ref lo]) rfl ?_
        have G : zG D AA ss.heap [(lo, .inr (4, [.ref lnow, .ref lsl, .ref ltr, .ref lcl, .ref lba, .ref ldu, .int (iI (((j : Nat) : Int))), .int (iI (((p : Nat) : Int))), .int (iI (((st : Nat) : Int))), .int (iI (cc)), .int (iI (bc)), .long (lI ((pot) + (bookP t f sg))), .long (lI (gr)), .long (lI (bk))])), (lba, .inl (k4 1, 6, .inr (.inl (fun i9 => lI ((bookB bal f sg j) i9))))), (o, .inr (2, [.ref ot, .ref og, .ref ou, .ref of, .int (iI (cb)), .int (iI (ca))])), (ot, .inr (3, [.ref osh, .ref ork, .int (iI (t 0)), .int (iI (t 1)), .int (iI (t 2)), .int (iI (t 3)), .int (iI (t 4)), .int (iI (t 5)), .int (iI (t 6))])), (of, .inl (k4 0, 48, .inl (fun i9 => iI (f i9))))] H locs := G
        refine z_imul E dX4_book_97 ?_
        refine z_isub E dX4_book_98 ?_
        refine z_imul E dX4_book_99 ?_
        refine z_eq (y := bookG t f sg) rfl ?_
        refine z_i2l E dX4_book_100 ⟨by omega, by omega⟩ ?_
        refine z_ladd E dX4_book_101 ?_
        refine kp_X4_182 E G 0 rfl (Nat.le_of_ble_eq_true rfl) dX4_book_102 (fun H locs G => ?_)
        have G : zG D AA ss.heap [(lo, .inr (4, [.ref lnow, .ref lsl, .ref ltr, .ref lcl, .ref lba, .ref ldu, .int (iI (((j : Nat) : Int))), .int (iI (((p : Nat) : Int))), .int (iI (((st : Nat) : Int))), .int (iI (cc)), .int (iI (bc)), .long (lI ((pot) + (bookP t f sg))), .long (lI ((gr) + (bookG t f sg))), .long (lI (bk))])), (lba, .inl (k4 1, 6, .inr (.inl (fun i9 => lI ((bookB bal f sg j) i9))))), (o, .inr (2, [.ref ot, .ref og, .ref ou, .ref of, .int (iI (cb)), .int (iI (ca))])), (ot, .inr (3, [.ref osh, .ref ork, .int (iI (t 0)), .int (iI (t 1)), .int (iI (t 2)), .int (iI (t 3)), .int (iI (t 4)), .int (iI (t 5)), .int (iI (t 6))])), (of, .inl (k4 0, 48, .inl (fun i9 => iI (f i9))))] H locs := G
        exact z_vret (w' := [(lo, .inr (4, [.ref lnow, .ref lsl, .ref ltr, .ref lcl, .ref lba, .ref ldu, .int (iI (((j : Nat) : Int))), .int (iI (((p : Nat) : Int))), .int (iI (((st : Nat) : Int))), .int (iI (cc)), .int (iI (bc)), .long (lI ((pot) + (bookP t f sg))), .long (lI ((gr) + (bookG t f sg))), .long (lI (bk))])), (lba, .inl (k4 1, 6, .inr (.inl (fun i9 => lI ((bookB bal f sg j) i9))))), (o, .inr (2, [.ref ot, .ref og, .ref ou, .ref of, .int (iI (cb)), .int (iI (ca))])), (ot, .inr (3, [.ref osh, .ref ork, .int (iI (t 0)), .int (iI (t 1)), .int (iI (t 2)), .int (iI (t 3)), .int (iI (t 4)), .int (iI (t 5)), .int (iI (t 6))])), (of, .inl (k4 0, 48, .inl (fun i9 => iI (f i9))))]) E hr hlocks G dX4_book_105 (by omega) (by omega) (zx0 rfl) ⟨rfl, rfl⟩
      · skip
        refine z_aload_n E hl 0 rfl dX4_book_17 rfl ?_
        refine kg_X4_34 E G 0 rfl rfl dX4_book_18 ?_
        refine z_iload E hl 4 rfl dX4_book_21 ?_
        refine z_iload_n E hl 2 rfl dX4_book_23 rfl ?_
        refine z_aload_n E hl 1 rfl dX4_book_24 rfl ?_
        refine z_iload E hl 4 rfl dX4_book_25 ?_
        refine z_bipush E dX4_book_27 (by decide) ?_
        refine z_callV E G hl.1 (c_X2_amount l D k4 o ot og ou of cb ca f j 7 (by omega) (by decide)) kV_X4_169 ⟨rfl, rfl, Nat.le_of_ble_eq_true rfl, Nat.le_of_ble_eq_true rfl⟩ [2, 4] rfl (by decide) 2 2 rfl rfl rfl rfl rfl (Nat.le_of_ble_eq_true rfl) dX4_book_29 ⟨by first | exact Nat.le_of_ble_eq_true rfl | omega, by first | exact Nat.le_of_ble_eq_true rfl | omega⟩ (fun v9 w9 H locs hq G => ?_)
        obtain ⟨rfl, rfl⟩ := hq
        refine W.eq (g2 := F0 mm 32 ls [.int (iI (f (j * 8 + 7))), .int (iI (sg)), .int (iI (((j : Nat) : Int))), .ref lba]) rfl ?_
        have G : zG D AA ss.heap [(lo, .inr (4, [.ref lnow, .ref lsl, .ref ltr, .ref lcl, .ref lba, .ref ldu, .int (iI (((n : Nat) : Int))), .int (iI (((p : Nat) : Int))), .int (iI (((st : Nat) : Int))), .int (iI (cc)), .int (iI (bc)), .long (lI (pot)), .long (lI (gr)), .long (lI (bk))])), (lba, .inl (k4 1, 6, .inr (.inl (fun i9 => lI ((bookB bal f sg j) i9))))), (o, .inr (2, [.ref ot, .ref og, .ref ou, .ref of, .int (iI (cb)), .int (iI (ca))])), (ot, .inr (3, [.ref osh, .ref ork, .int (iI (t 0)), .int (iI (t 1)), .int (iI (t 2)), .int (iI (t 3)), .int (iI (t 4)), .int (iI (t 5)), .int (iI (t 6))])), (of, .inl (k4 0, 48, .inl (fun i9 => iI (f i9))))] H locs := G
        refine z_imul E dX4_book_32 ?_
        have b3 := sgn_b hsg (hf.2 j (by omega))
        refine z_i2l E dX4_book_33 ⟨by omega, by omega⟩ ?_
        refine z_callS E G hl.1 (c_X4_add l D k4 lba 6 ((bookB bal f sg j)) j (sg * f (j * 8 + 7)) (by omega) (by decide)) kS_X4_188 ⟨rfl, rfl, Nat.le_of_ble_eq_true rfl, Nat.le_of_ble_eq_true rfl⟩ [1] rfl (by decide) rfl rfl (Nat.le_of_ble_eq_true rfl) dX4_book_34 ⟨by first | exact Nat.le_of_ble_eq_true rfl | omega, by first | exact Nat.le_of_ble_eq_true rfl | omega⟩ (fun v9 w9 H locs hq G => ?_)
        obtain ⟨rfl, rfl⟩ := hq
        refine W.eq (g2 := F0 mm 37 ls []) rfl ?_
        have G : zG D AA ss.heap [(lo, .inr (4, [.ref lnow, .ref lsl, .ref ltr, .ref lcl, .ref lba, .ref ldu, .int (iI (((n : Nat) : Int))), .int (iI (((p : Nat) : Int))), .int (iI (((st : Nat) : Int))), .int (iI (cc)), .int (iI (bc)), .long (lI (pot)), .long (lI (gr)), .long (lI (bk))])), (lba, .inl (k4 1, 6, .inr (.inl (fun i9 => lI ((up (bookB bal f sg j) j ((bookB bal f sg j) j + (sg * f (j * 8 + 7)))) i9))))), (o, .inr (2, [.ref ot, .ref og, .ref ou, .ref of, .int (iI (cb)), .int (iI (ca))])), (ot, .inr (3, [.ref osh, .ref ork, .int (iI (t 0)), .int (iI (t 1)), .int (iI (t 2)), .int (iI (t 3)), .int (iI (t 4)), .int (iI (t 5)), .int (iI (t 6))])), (of, .inl (k4 0, 48, .inl (fun i9 => iI (f i9))))] H locs := G
        refine z_iinc E [(4, .int (iI (((j : Nat) : Int) + 1))), (0, .ref lo), (1, .ref o), (2, .int (iI (sg))), (3, .ref ot)] dX4_book_37 hl (k := 4) rfl (by decide) rfl (fun ls hl => ?_)
        refine z_goto (tgt := 8) E dX4_book_40 (by decide) ?_
        exact ih8_1 (j + 1) _ _ _ (by omega) (by omega) G (lv_sub hl [1, 2, 3, 4, 0] rfl)
  exact hp8_1 (n + 1) 0 _ _ _ (by omega) (by omega) G (lv_sub hl [2, 3, 4, 1, 0] rfl)

def q_c_X4_setTrial (k4 : Nat → ClassId) (lo lnow lsl ltr lcl lba ldu : Nat) (n p st : Nat) (cc bc pot gr bk : Int) (nsh nrk : Nat) (nw : Nat → Int) (sa0 : Nat → Nat) (o ot osh ork og ou of : Nat) (cb ca : Int) (o2 ot2 og2 ou2 of2 : Nat) (cb2 ca2 : Int) (t g u g2 u2 : Nat → Int) (ru : Int) : Option Value → va_W → Prop := (fun (v9 : Option Value) (w9 : va_W) => v9 = none ∧ w9 = [(lo, .inr (4, [.ref lnow, .ref lsl, .ref ltr, .ref lcl, .ref lba, .ref ldu, .int (iI (((n : Nat) : Int))), .int (iI (((p : Nat) : Int))), .int (iI (((st : Nat) : Int))), .int (iI (cc)), .int (iI (bc)), .long (lI (pot)), .long (lI (gr)), .long (lI (bk))])), (lnow, .inr (3, [.ref nsh, .ref nrk, .int (iI (nw 0)), .int (iI (nw 1)), .int (iI (nw 2)), .int (iI (nw 3)), .int (iI (nw 4)), .int (iI (nw 5)), .int (iI (nw 6))])), (nsh, .inl (k4 0, 6, .inl (fun i9 => iI ((fun i => nw (7 + i)) i9)))), (nrk, .inl (k4 0, 6, .inl (fun i9 => iI ((fun i => nw (13 + i)) i9)))), (lsl, .inl (k4 3, 48, .inr (.inr (.inr (.inr (fun i => some (sa0 i))))))), (o, .inr (2, [.ref ot, .ref og, .ref ou, .ref of, .int (iI (bc)), .int (iI (ca))])), (ot, .inr (3, [.ref osh, .ref ork, .int (iI ((up nw 0 ru) 0)), .int (iI ((up nw 0 ru) 1)), .int (iI ((up nw 0 ru) 2)), .int (iI ((up nw 0 ru) 3)), .int (iI ((up nw 0 ru) 4)), .int (iI ((up nw 0 ru) 5)), .int (iI ((up nw 0 ru) 6))])), (osh, .inl (k4 0, 6, .inl (fun i9 => iI ((fun i => (up nw 0 ru) (7 + i)) i9)))), (ork, .inl (k4 0, 6, .inl (fun i9 => iI ((fun i => (up nw 0 ru) (13 + i)) i9)))), (og, .inl (k4 0, 6, .inl (fun i9 => iI (g2 i9)))), (ou, .inl (k4 0, 6, .inl (fun i9 => iI (u2 i9)))), (o2, .inr (2, [.ref ot2, .ref og2, .ref ou2, .ref of2, .int (iI (cb2)), .int (iI (ca2))])), (og2, .inl (k4 0, 6, .inl (fun i9 => iI (g2 i9)))), (ou2, .inl (k4 0, 6, .inl (fun i9 => iI (u2 i9))))])
set_option maxHeartbeats 4000000 in
set_option maxRecDepth 100000 in
theorem c_X4_setTrial (l : Launch) (D : va_G) (k4 : Nat → ClassId) (lo lnow lsl ltr lcl lba ldu : Nat) (n p st : Nat) (cc bc pot gr bk : Int) (nsh nrk : Nat) (nw : Nat → Int) (sa0 : Nat → Nat) (o ot osh ork og ou of : Nat) (cb ca : Int) (o2 ot2 og2 ou2 of2 : Nat) (cb2 ca2 : Int) (t g u g2 u2 : Nat → Int) (ru : Int) (hp : p < 48) (hg : rdOK g) (hu : rdOK u) (hg2 : rdOK g2) (hu2 : rdOK u2) (e1 : ltr = o) (e2 : sa0 p = o2) : zC l yX4_setTrial (zW yX4_setTrial cX4_setTrial 2 none) ({ frames := 3, cells := 0, slots := 0, locals := 68 } : Room) D k4 [.ref lo, .int (iI (ru))] [(lo, .inr (4, [.ref lnow, .ref lsl, .ref ltr, .ref lcl, .ref lba, .ref ldu, .int (iI (((n : Nat) : Int))), .int (iI (((p : Nat) : Int))), .int (iI (((st : Nat) : Int))), .int (iI (cc)), .int (iI (bc)), .long (lI (pot)), .long (lI (gr)), .long (lI (bk))])), (lnow, .inr (3, [.ref nsh, .ref nrk, .int (iI (nw 0)), .int (iI (nw 1)), .int (iI (nw 2)), .int (iI (nw 3)), .int (iI (nw 4)), .int (iI (nw 5)), .int (iI (nw 6))])), (nsh, .inl (k4 0, 6, .inl (fun i9 => iI ((fun i => nw (7 + i)) i9)))), (nrk, .inl (k4 0, 6, .inl (fun i9 => iI ((fun i => nw (13 + i)) i9)))), (lsl, .inl (k4 3, 48, .inr (.inr (.inr (.inr (fun i => some (sa0 i))))))), (o, .inr (2, [.ref ot, .ref og, .ref ou, .ref of, .int (iI (cb)), .int (iI (ca))])), (ot, .inr (3, [.ref osh, .ref ork, .int (iI (t 0)), .int (iI (t 1)), .int (iI (t 2)), .int (iI (t 3)), .int (iI (t 4)), .int (iI (t 5)), .int (iI (t 6))])), (osh, .inl (k4 0, 6, .inl (fun i9 => iI ((fun i => t (7 + i)) i9)))), (ork, .inl (k4 0, 6, .inl (fun i9 => iI ((fun i => t (13 + i)) i9)))), (og, .inl (k4 0, 6, .inl (fun i9 => iI (g i9)))), (ou, .inl (k4 0, 6, .inl (fun i9 => iI (u i9)))), (o2, .inr (2, [.ref ot2, .ref og2, .ref ou2, .ref of2, .int (iI (cb2)), .int (iI (ca2))])), (og2, .inl (k4 0, 6, .inl (fun i9 => iI (g2 i9)))), (ou2, .inl (k4 0, 6, .inl (fun i9 => iI (u2 i9))))] (0) (0) (q_c_X4_setTrial k4 lo lnow lsl ltr lcl lba ldu n p st cc bc pot gr bk nsh nrk nw sa0 o ot osh ork og ou of cb ca o2 ot2 og2 ou2 of2 cb2 ca2 t g u g2 u2 ru) := by
  refine zC_of (cc := cX4_setTrial) (by decide) (Nat.le_of_ble_eq_true rfl) (fun pp ee ss mm bl me co AA H locs ls E hr hlocks hin G hl => ?_)
  have hl : lv_has ls 2 [(0, .ref lo), (1, .int (iI (ru)))] := hl
  subst e1
  subst e2
  refine z_aload_n E hl 0 rfl dX4_setTrial_0 rfl ?_
  refine kg_X4_23 E G 0 rfl rfl dX4_setTrial_1 ?_
  refine z_aload_n E hl 0 rfl dX4_setTrial_4 rfl ?_
  refine z_aload_n E hl 0 rfl dX4_setTrial_5 rfl ?_
  refine kg_X4_45 E G 0 rfl rfl dX4_setTrial_6 ?_
  refine z_callV E G hl.1 (c_X4_slotAt l D k4 lo lnow lsl ltr lcl lba ldu n p st cc bc pot gr bk sa0 p hp) kV_X4_113 ⟨rfl, rfl, Nat.le_of_ble_eq_true rfl, Nat.le_of_ble_eq_true rfl⟩ [0, 4] rfl (by decide) 0 4 rfl rfl rfl rfl rfl (Nat.le_of_ble_eq_true rfl) dX4_setTrial_9 ⟨by first | exact Nat.le_of_ble_eq_true rfl | omega, by first | exact Nat.le_of_ble_eq_true rfl | omega⟩ (fun v9 w9 H locs hq G => ?_)
  obtain ⟨rfl, rfl⟩ := hq
  refine W.eq (g2 := F0 mm 12 ls [.ref (sa0 p), .ref ltr]) rfl ?_
  have G : zG D AA ss.heap [(lo, .inr (4, [.ref lnow, .ref lsl, .ref ltr, .ref lcl, .ref lba, .ref ldu, .int (iI (((n : Nat) : Int))), .int (iI (((p : Nat) : Int))), .int (iI (((st : Nat) : Int))), .int (iI (cc)), .int (iI (bc)), .long (lI (pot)), .long (lI (gr)), .long (lI (bk))])), (lnow, .inr (3, [.ref nsh, .ref nrk, .int (iI (nw 0)), .int (iI (nw 1)), .int (iI (nw 2)), .int (iI (nw 3)), .int (iI (nw 4)), .int (iI (nw 5)), .int (iI (nw 6))])), (nsh, .inl (k4 0, 6, .inl (fun i9 => iI ((fun i => nw (7 + i)) i9)))), (nrk, .inl (k4 0, 6, .inl (fun i9 => iI ((fun i => nw (13 + i)) i9)))), (lsl, .inl (k4 3, 48, .inr (.inr (.inr (.inr (fun i => some (sa0 i))))))), (ltr, .inr (2, [.ref ot, .ref og, .ref ou, .ref of, .int (iI (cb)), .int (iI (ca))])), (ot, .inr (3, [.ref osh, .ref ork, .int (iI (t 0)), .int (iI (t 1)), .int (iI (t 2)), .int (iI (t 3)), .int (iI (t 4)), .int (iI (t 5)), .int (iI (t 6))])), (osh, .inl (k4 0, 6, .inl (fun i9 => iI ((fun i => t (7 + i)) i9)))), (ork, .inl (k4 0, 6, .inl (fun i9 => iI ((fun i => t (13 + i)) i9)))), (og, .inl (k4 0, 6, .inl (fun i9 => iI (g i9)))), (ou, .inl (k4 0, 6, .inl (fun i9 => iI (u i9)))), ((sa0 p), .inr (2, [.ref ot2, .ref og2, .ref ou2, .ref of2, .int (iI (cb2)), .int (iI (ca2))])), (og2, .inl (k4 0, 6, .inl (fun i9 => iI (g2 i9)))), (ou2, .inl (k4 0, 6, .inl (fun i9 => iI (u2 i9))))] H locs := G
  refine z_callV E G hl.1 (c_X2_copyReadings l D k4 ltr ot og ou of cb ca ((sa0 p)) ot2 og2 ou2 of2 cb2 ca2 g u g2 u2 hg hu hg2 hu2) kV_X4_219 ⟨rfl, rfl, Nat.le_of_ble_eq_true rfl, Nat.le_of_ble_eq_true rfl⟩ [5, 9, 10, 11, 12, 13] rfl (by decide) 5 2 rfl rfl rfl rfl rfl (Nat.le_of_ble_eq_true rfl) dX4_setTrial_12 ⟨by first | exact Nat.le_of_ble_eq_true rfl | omega, by first | exact Nat.le_of_ble_eq_true rfl | omega⟩ (fun v9 w9 H locs hq G => ?_)
  obtain ⟨rfl, rfl⟩ := hq
  refine W.eq (g2 := F0 mm 15 ls []) rfl ?_
  have G : zG D AA ss.heap [(lo, .inr (4, [.ref lnow, .ref lsl, .ref ltr, .ref lcl, .ref lba, .ref ldu, .int (iI (((n : Nat) : Int))), .int (iI (((p : Nat) : Int))), .int (iI (((st : Nat) : Int))), .int (iI (cc)), .int (iI (bc)), .long (lI (pot)), .long (lI (gr)), .long (lI (bk))])), (lnow, .inr (3, [.ref nsh, .ref nrk, .int (iI (nw 0)), .int (iI (nw 1)), .int (iI (nw 2)), .int (iI (nw 3)), .int (iI (nw 4)), .int (iI (nw 5)), .int (iI (nw 6))])), (nsh, .inl (k4 0, 6, .inl (fun i9 => iI ((fun i => nw (7 + i)) i9)))), (nrk, .inl (k4 0, 6, .inl (fun i9 => iI ((fun i => nw (13 + i)) i9)))), (lsl, .inl (k4 3, 48, .inr (.inr (.inr (.inr (fun i => some (sa0 i))))))), (ltr, .inr (2, [.ref ot, .ref og, .ref ou, .ref of, .int (iI (cb)), .int (iI (ca))])), (ot, .inr (3, [.ref osh, .ref ork, .int (iI (t 0)), .int (iI (t 1)), .int (iI (t 2)), .int (iI (t 3)), .int (iI (t 4)), .int (iI (t 5)), .int (iI (t 6))])), (osh, .inl (k4 0, 6, .inl (fun i9 => iI ((fun i => t (7 + i)) i9)))), (ork, .inl (k4 0, 6, .inl (fun i9 => iI ((fun i => t (13 + i)) i9)))), (og, .inl (k4 0, 6, .inl (fun i9 => iI (g2 i9)))), (ou, .inl (k4 0, 6, .inl (fun i9 => iI (u2 i9)))), ((sa0 p), .inr (2, [.ref ot2, .ref og2, .ref ou2, .ref of2, .int (iI (cb2)), .int (iI (ca2))])), (og2, .inl (k4 0, 6, .inl (fun i9 => iI (g2 i9)))), (ou2, .inl (k4 0, 6, .inl (fun i9 => iI (u2 i9))))] H locs := G
  refine z_aload_n E hl 0 rfl dX4_setTrial_15 rfl ?_
  refine kg_X4_23 E G 0 rfl rfl dX4_setTrial_16 ?_
  refine kg_X4_129 E G 5 rfl rfl dX4_setTrial_19 ?_
  refine z_aload_n E hl 0 rfl dX4_setTrial_22 rfl ?_
  refine kg_X4_10 E G 0 rfl rfl dX4_setTrial_23 ?_
  refine z_callV E G hl.1 (c_X3_copy l D k4 ot osh ork lnow nsh nrk t nw ) kV_X4_132 ⟨rfl, rfl, Nat.le_of_ble_eq_true rfl, Nat.le_of_ble_eq_true rfl⟩ [6, 7, 8, 1, 2, 3] rfl (by decide) 6 3 rfl rfl rfl rfl rfl (Nat.le_of_ble_eq_true rfl) dX4_setTrial_26 ⟨by first | exact Nat.le_of_ble_eq_true rfl | omega, by first | exact Nat.le_of_ble_eq_true rfl | omega⟩ (fun v9 w9 H locs hq G => ?_)
  obtain ⟨rfl, rfl⟩ := hq
  refine W.eq (g2 := F0 mm 29 ls []) rfl ?_
  have G : zG D AA ss.heap [(lo, .inr (4, [.ref lnow, .ref lsl, .ref ltr, .ref lcl, .ref lba, .ref ldu, .int (iI (((n : Nat) : Int))), .int (iI (((p : Nat) : Int))), .int (iI (((st : Nat) : Int))), .int (iI (cc)), .int (iI (bc)), .long (lI (pot)), .long (lI (gr)), .long (lI (bk))])), (lnow, .inr (3, [.ref nsh, .ref nrk, .int (iI (nw 0)), .int (iI (nw 1)), .int (iI (nw 2)), .int (iI (nw 3)), .int (iI (nw 4)), .int (iI (nw 5)), .int (iI (nw 6))])), (nsh, .inl (k4 0, 6, .inl (fun i9 => iI ((fun i => nw (7 + i)) i9)))), (nrk, .inl (k4 0, 6, .inl (fun i9 => iI ((fun i => nw (13 + i)) i9)))), (lsl, .inl (k4 3, 48, .inr (.inr (.inr (.inr (fun i => some (sa0 i))))))), (ltr, .inr (2, [.ref ot, .ref og, .ref ou, .ref of, .int (iI (cb)), .int (iI (ca))])), (ot, .inr (3, [.ref osh, .ref ork, .int (iI (nw 0)), .int (iI (nw 1)), .int (iI (nw 2)), .int (iI (nw 3)), .int (iI (nw 4)), .int (iI (nw 5)), .int (iI (nw 6))])), (osh, .inl (k4 0, 6, .inl (fun i9 => iI ((fun i => nw (7 + i)) i9)))), (ork, .inl (k4 0, 6, .inl (fun i9 => iI ((fun i => nw (13 + i)) i9)))), (og, .inl (k4 0, 6, .inl (fun i9 => iI (g2 i9)))), (ou, .inl (k4 0, 6, .inl (fun i9 => iI (u2 i9)))), ((sa0 p), .inr (2, [.ref ot2, .ref og2, .ref ou2, .ref of2, .int (iI (cb2)), .int (iI (ca2))])), (og2, .inl (k4 0, 6, .inl (fun i9 => iI (g2 i9)))), (ou2, .inl (k4 0, 6, .inl (fun i9 => iI (u2 i9))))] H locs := G
  refine z_aload_n E hl 0 rfl dX4_setTrial_29 rfl ?_
  refine kg_X4_23 E G 0 rfl rfl dX4_setTrial_30 ?_
  refine kg_X4_129 E G 5 rfl rfl dX4_setTrial_33 ?_
  refine z_iload_n E hl 1 rfl dX4_setTrial_36 rfl ?_
  refine kp_X4_78 E G 6 rfl (Nat.le_of_ble_eq_true rfl) dX4_setTrial_37 (fun H locs G => ?_)
  have G : zG D AA ss.heap [(lo, .inr (4, [.ref lnow, .ref lsl, .ref ltr, .ref lcl, .ref lba, .ref ldu, .int (iI (((n : Nat) : Int))), .int (iI (((p : Nat) : Int))), .int (iI (((st : Nat) : Int))), .int (iI (cc)), .int (iI (bc)), .long (lI (pot)), .long (lI (gr)), .long (lI (bk))])), (lnow, .inr (3, [.ref nsh, .ref nrk, .int (iI (nw 0)), .int (iI (nw 1)), .int (iI (nw 2)), .int (iI (nw 3)), .int (iI (nw 4)), .int (iI (nw 5)), .int (iI (nw 6))])), (nsh, .inl (k4 0, 6, .inl (fun i9 => iI ((fun i => nw (7 + i)) i9)))), (nrk, .inl (k4 0, 6, .inl (fun i9 => iI ((fun i => nw (13 + i)) i9)))), (lsl, .inl (k4 3, 48, .inr (.inr (.inr (.inr (fun i => some (sa0 i))))))), (ltr, .inr (2, [.ref ot, .ref og, .ref ou, .ref of, .int (iI (cb)), .int (iI (ca))])), (ot, .inr (3, [.ref osh, .ref ork, .int (iI (ru)), .int (iI (nw 1)), .int (iI (nw 2)), .int (iI (nw 3)), .int (iI (nw 4)), .int (iI (nw 5)), .int (iI (nw 6))])), (osh, .inl (k4 0, 6, .inl (fun i9 => iI ((fun i => nw (7 + i)) i9)))), (ork, .inl (k4 0, 6, .inl (fun i9 => iI ((fun i => nw (13 + i)) i9)))), (og, .inl (k4 0, 6, .inl (fun i9 => iI (g2 i9)))), (ou, .inl (k4 0, 6, .inl (fun i9 => iI (u2 i9)))), ((sa0 p), .inr (2, [.ref ot2, .ref og2, .ref ou2, .ref of2, .int (iI (cb2)), .int (iI (ca2))])), (og2, .inl (k4 0, 6, .inl (fun i9 => iI (g2 i9)))), (ou2, .inl (k4 0, 6, .inl (fun i9 => iI (u2 i9))))] H locs := G
  refine z_aload_n E hl 0 rfl dX4_setTrial_40 rfl ?_
  refine kg_X4_23 E G 0 rfl rfl dX4_setTrial_41 ?_
  refine z_aload_n E hl 0 rfl dX4_setTrial_44 rfl ?_
  refine kg_X4_99 E G 0 rfl rfl dX4_setTrial_45 ?_
  refine kp_X4_136 E G 5 rfl (Nat.le_of_ble_eq_true rfl) dX4_setTrial_48 (fun H locs G => ?_)
  have G : zG D AA ss.heap [(lo, .inr (4, [.ref lnow, .ref lsl, .ref ltr, .ref lcl, .ref lba, .ref ldu, .int (iI (((n : Nat) : Int))), .int (iI (((p : Nat) : Int))), .int (iI (((st : Nat) : Int))), .int (iI (cc)), .int (iI (bc)), .long (lI (pot)), .long (lI (gr)), .long (lI (bk))])), (lnow, .inr (3, [.ref nsh, .ref nrk, .int (iI (nw 0)), .int (iI (nw 1)), .int (iI (nw 2)), .int (iI (nw 3)), .int (iI (nw 4)), .int (iI (nw 5)), .int (iI (nw 6))])), (nsh, .inl (k4 0, 6, .inl (fun i9 => iI ((fun i => nw (7 + i)) i9)))), (nrk, .inl (k4 0, 6, .inl (fun i9 => iI ((fun i => nw (13 + i)) i9)))), (lsl, .inl (k4 3, 48, .inr (.inr (.inr (.inr (fun i => some (sa0 i))))))), (ltr, .inr (2, [.ref ot, .ref og, .ref ou, .ref of, .int (iI (bc)), .int (iI (ca))])), (ot, .inr (3, [.ref osh, .ref ork, .int (iI (ru)), .int (iI (nw 1)), .int (iI (nw 2)), .int (iI (nw 3)), .int (iI (nw 4)), .int (iI (nw 5)), .int (iI (nw 6))])), (osh, .inl (k4 0, 6, .inl (fun i9 => iI ((fun i => nw (7 + i)) i9)))), (ork, .inl (k4 0, 6, .inl (fun i9 => iI ((fun i => nw (13 + i)) i9)))), (og, .inl (k4 0, 6, .inl (fun i9 => iI (g2 i9)))), (ou, .inl (k4 0, 6, .inl (fun i9 => iI (u2 i9)))), ((sa0 p), .inr (2, [.ref ot2, .ref og2, .ref ou2, .ref of2, .int (iI (cb2)), .int (iI (ca2))])), (og2, .inl (k4 0, 6, .inl (fun i9 => iI (g2 i9)))), (ou2, .inl (k4 0, 6, .inl (fun i9 => iI (u2 i9))))] H locs := G
  have G := z_ext G 7 rfl (F' := fun i => up nw 0 ru (7 + i)) (fun k hk => (up_n (by omega)).symm)
  have G := z_ext G 8 rfl (F' := fun i => up nw 0 ru (13 + i)) (fun k hk => (up_n (by omega)).symm)
  exact z_vret (w' := [(lo, .inr (4, [.ref lnow, .ref lsl, .ref ltr, .ref lcl, .ref lba, .ref ldu, .int (iI (((n : Nat) : Int))), .int (iI (((p : Nat) : Int))), .int (iI (((st : Nat) : Int))), .int (iI (cc)), .int (iI (bc)), .long (lI (pot)), .long (lI (gr)), .long (lI (bk))])), (lnow, .inr (3, [.ref nsh, .ref nrk, .int (iI (nw 0)), .int (iI (nw 1)), .int (iI (nw 2)), .int (iI (nw 3)), .int (iI (nw 4)), .int (iI (nw 5)), .int (iI (nw 6))])), (nsh, .inl (k4 0, 6, .inl (fun i9 => iI ((fun i => nw (7 + i)) i9)))), (nrk, .inl (k4 0, 6, .inl (fun i9 => iI ((fun i => nw (13 + i)) i9)))), (lsl, .inl (k4 3, 48, .inr (.inr (.inr (.inr (fun i => some (sa0 i))))))), (ltr, .inr (2, [.ref ot, .ref og, .ref ou, .ref of, .int (iI (bc)), .int (iI (ca))])), (ot, .inr (3, [.ref osh, .ref ork, .int (iI ((up nw 0 ru) 0)), .int (iI ((up nw 0 ru) 1)), .int (iI ((up nw 0 ru) 2)), .int (iI ((up nw 0 ru) 3)), .int (iI ((up nw 0 ru) 4)), .int (iI ((up nw 0 ru) 5)), .int (iI ((up nw 0 ru) 6))])), (osh, .inl (k4 0, 6, .inl (fun i9 => iI ((fun i => (up nw 0 ru) (7 + i)) i9)))), (ork, .inl (k4 0, 6, .inl (fun i9 => iI ((fun i => (up nw 0 ru) (13 + i)) i9)))), (og, .inl (k4 0, 6, .inl (fun i9 => iI (g2 i9)))), (ou, .inl (k4 0, 6, .inl (fun i9 => iI (u2 i9)))), ((sa0 p), .inr (2, [.ref ot2, .ref og2, .ref ou2, .ref of2, .int (iI (cb2)), .int (iI (ca2))])), (og2, .inl (k4 0, 6, .inl (fun i9 => iI (g2 i9)))), (ou2, .inl (k4 0, 6, .inl (fun i9 => iI (u2 i9))))]) E hr hlocks G dX4_setTrial_51 (by omega) (by omega) (zx0 rfl) ⟨rfl, rfl⟩

