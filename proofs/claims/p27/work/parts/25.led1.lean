def q_c_X4_slotAt (k4 : Nat → ClassId) (lo lnow lsl ltr lcl lba ldu : Nat) (n p st : Nat) (cc bc pot gr bk : Int) (sa0 : Nat → Nat) (k : Nat) : Option Value → va_W → Prop := (fun (v9 : Option Value) (w9 : va_W) => v9 = some (.ref (sa0 k)) ∧ w9 = [(lo, .inr (4, [.ref lnow, .ref lsl, .ref ltr, .ref lcl, .ref lba, .ref ldu, .int (iI (((n : Nat) : Int))), .int (iI (((p : Nat) : Int))), .int (iI (((st : Nat) : Int))), .int (iI (cc)), .int (iI (bc)), .long (lI (pot)), .long (lI (gr)), .long (lI (bk))])), (lsl, .inl (k4 3, 48, .inr (.inr (.inr (.inr (fun i => some (sa0 i)))))))])
set_option maxHeartbeats 4000000 in
set_option maxRecDepth 100000 in
theorem c_X4_slotAt (l : Launch) (D : va_G) (k4 : Nat → ClassId) (lo lnow lsl ltr lcl lba ldu : Nat) (n p st : Nat) (cc bc pot gr bk : Int) (sa0 : Nat → Nat) (k : Nat) (hk : k < 48) : zC l yX4_slotAt (zW yX4_slotAt cX4_slotAt 3 (some (.object "EnergyLedger$Slot"))) ({ frames := 0, cells := 0, slots := 0, locals := 0 } : Room) D k4 [.ref lo, .int (iI (((k : Nat) : Int)))] [(lo, .inr (4, [.ref lnow, .ref lsl, .ref ltr, .ref lcl, .ref lba, .ref ldu, .int (iI (((n : Nat) : Int))), .int (iI (((p : Nat) : Int))), .int (iI (((st : Nat) : Int))), .int (iI (cc)), .int (iI (bc)), .long (lI (pot)), .long (lI (gr)), .long (lI (bk))])), (lsl, .inl (k4 3, 48, .inr (.inr (.inr (.inr (fun i => some (sa0 i)))))))] (0) (0) (q_c_X4_slotAt k4 lo lnow lsl ltr lcl lba ldu n p st cc bc pot gr bk sa0 k) := by
  refine zC_of (cc := cX4_slotAt) (by decide) (Nat.le_of_ble_eq_true rfl) (fun pp ee ss mm bl me co AA H locs ls E hr hlocks hin G hl => ?_)
  have hl : lv_has ls 3 [(0, .ref lo), (1, .int (iI (((k : Nat) : Int))))] := hl
  refine z_iload_n E hl 1 rfl dX4_slotAt_0 rfl ?_
  refine z_if_lt (tgt := 22) E dX4_slotAt_1 (by decide) ⟨by omega, by omega⟩ (fun c_1 => absurd c_1 (by omega)) (fun c_1 => ?_)
  refine z_iload_n E hl 1 rfl dX4_slotAt_4 rfl ?_
  refine z_aload_n E hl 0 rfl dX4_slotAt_5 rfl ?_
  refine kg_X4_18 E G 0 rfl rfl dX4_slotAt_6 ?_
  refine z_alen E G 1 3 rfl rfl dX4_slotAt_9 ?_
  refine z_icmp_ge (tgt := 22) E dX4_slotAt_10 (by decide) ⟨by omega, by omega⟩ ⟨by omega, by omega⟩ (fun c_10 => absurd c_10 (by omega)) (fun c_10 => ?_)
  refine z_aload_n E hl 0 rfl dX4_slotAt_13 rfl ?_
  refine kg_X4_18 E G 0 rfl rfl dX4_slotAt_14 ?_
  refine z_iload_n E hl 1 rfl dX4_slotAt_17 rfl ?_
  refine z_aald E G 1 rfl (k) rfl (by omega) (by decide) ((sa0 k)) rfl dX4_slotAt_18 ?_
  refine z_goto (tgt := 23) E dX4_slotAt_19 (by decide) ?_
  refine z_astore_n E [(2, .ref (sa0 k)), (0, .ref lo), (1, .int (iI (((k : Nat) : Int))))] dX4_slotAt_23 rfl hl (by decide) rfl (fun ls hl => ?_)
  refine z_aload_n E hl 0 rfl dX4_slotAt_24 rfl ?_
  refine z_ifnull E dX4_slotAt_25 ?_
  refine z_aload_n E hl 0 rfl dX4_slotAt_28 rfl ?_
  refine z_goto (tgt := 36) E dX4_slotAt_29 (by decide) ?_
  exact z_aret (w' := [(lo, .inr (4, [.ref lnow, .ref lsl, .ref ltr, .ref lcl, .ref lba, .ref ldu, .int (iI (((n : Nat) : Int))), .int (iI (((p : Nat) : Int))), .int (iI (((st : Nat) : Int))), .int (iI (cc)), .int (iI (bc)), .long (lI (pot)), .long (lI (gr)), .long (lI (bk))])), (lsl, .inl (k4 3, 48, .inr (.inr (.inr (.inr (fun i => some (sa0 i)))))))]) E hr (by first | exact Or.inl ⟨_, rfl⟩ | exact Or.inr ⟨_, rfl⟩) hlocks G dX4_slotAt_36 (by omega) (by omega) (zx0 rfl) ⟨rfl, rfl⟩

def q_c_X4_book (k4 : Nat → ClassId) (lo lnow lsl ltr lcl lba ldu : Nat) (n p st : Nat) (cc bc pot gr bk : Int) (o ot og ou of : Nat) (cb ca : Int) (osh ork : Nat) (t f bal : Nat → Int) (sg : Int) : Option Value → va_W → Prop := (fun (v9 : Option Value) (w9 : va_W) => v9 = none ∧ w9 = [(lo, .inr (4, [.ref lnow, .ref lsl, .ref ltr, .ref lcl, .ref lba, .ref ldu, .int (iI (((n : Nat) : Int))), .int (iI (((p : Nat) : Int))), .int (iI (((st : Nat) : Int))), .int (iI (cc)), .int (iI (bc)), .long (lI (pot + bookP t f sg)), .long (lI (gr + bookG t f sg)), .long (lI (bk))])), (lba, .inl (k4 1, 6, .inr (.inl (fun i9 => lI ((bookB bal f sg n) i9))))), (o, .inr (2, [.ref ot, .ref og, .ref ou, .ref of, .int (iI (cb)), .int (iI (ca))])), (ot, .inr (3, [.ref osh, .ref ork, .int (iI (t 0)), .int (iI (t 1)), .int (iI (t 2)), .int (iI (t 3)), .int (iI (t 4)), .int (iI (t 5)), .int (iI (t 6))])), (of, .inl (k4 0, 48, .inl (fun i9 => iI (f i9))))])
set_option maxHeartbeats 4000000 in
set_option maxRecDepth 100000 in
theorem c_X4_book (l : Launch) (D : va_G) (k4 : Nat → ClassId) (lo lnow lsl ltr lcl lba ldu : Nat) (n p st : Nat) (cc bc pot gr bk : Int) (o ot og ou of : Nat) (cb ca : Int) (osh ork : Nat) (t f bal : Nat → Int) (sg : Int) (hn : n ≤ 6) (htm : tOK t) (hf : flOK f) (hsg : sg = 1 ∨ sg = -1) : zC l yX4_book (zW yX4_book cX4_book 5 none) ({ frames := 3, cells := 0, slots := 0, locals := 66 } : Room) D k4 [.ref lo, .ref o, .int (iI (sg))] [(lo, .inr (4, [.ref lnow, .ref lsl, .ref ltr, .ref lcl, .ref lba, .ref ldu, .int (iI (((n : Nat) : Int))), .int (iI (((p : Nat) : Int))), .int (iI (((st : Nat) : Int))), .int (iI (cc)), .int (iI (bc)), .long (lI (pot)), .long (lI (gr)), .long (lI (bk))])), (lba, .inl (k4 1, 6, .inr (.inl (fun i9 => lI (bal i9))))), (o, .inr (2, [.ref ot, .ref og, .ref ou, .ref of, .int (iI (cb)), .int (iI (ca))])), (ot, .inr (3, [.ref osh, .ref ork, .int (iI (t 0)), .int (iI (t 1)), .int (iI (t 2)), .int (iI (t 3)), .int (iI (t 4)), .int (iI (t 5)), .int (iI (t 6))])), (of, .inl (k4 0, 48, .inl (fun i9 => iI (f i9))))] (0) (0) (q_c_X4_book k4 lo lnow lsl ltr lcl lba ldu n p st cc bc pot gr bk o ot og ou of cb ca osh ork t f bal sg) := by
  refine zC_of (cc := cX4_book) (by decide) (Nat.le_of_ble_eq_true rfl) (fun pp ee ss mm bl me co AA H locs ls E hr hlocks hin G hl => ?_)
  have hl : lv_has ls 5 [(0, .ref lo), (1, .ref o), (2, .int (iI (sg)))] := hl
  refine z_aload_n E hl 1 rfl dX4_book_0 rfl ?_
  refine kg_X4_129 E G 2 rfl rfl dX4_book_1 ?_
  refine z_astore_n E [(3, .ref ot), (0, .ref lo), (1, .ref o), (2, .int (iI (sg)))] dX4_book_4 rfl hl (by decide) rfl (fun ls hl => ?_)
  refine z_iconst E dX4_book_5 ?_
  refine z_istore E [(4, .int (iI (0))), (3, .ref ot), (0, .ref lo), (1, .ref o), (2, .int (iI (sg)))] dX4_book_6 hl (by decide) rfl (fun ls hl => ?_)
  have hp8_1 : ∀ (n9 : Nat) (j : Nat) (H : Heap) (locs : List Loc) (ls : Array Slot), (n - j < n9) → (j ≤ n) → zG D AA ss.heap [(lo, .inr (4, [.ref lnow, .ref lsl, .ref ltr, .ref lcl, .ref lba, .ref ldu, .int (iI (((n : Nat) : Int))), .int (iI (((p : Nat) : Int))), .int (iI (((st : Nat) : Int))), .int (iI (cc)), .int (iI (bc)), .long (lI (pot)), .long (lI (gr)), .long (lI (bk))])), (lba, .inl (k4 1, 6, .inr (.inl (fun i9 => lI ((bookB bal f sg j) i9))))), (o, .inr (2, [.ref ot, .ref og, .ref ou, .ref of, .int (iI (cb)), .int (iI (ca))])), (ot, .inr (3, [.ref osh, .ref ork, .int (iI (t 0)), .int (iI (t 1)), .int (iI (t 2)), .int (iI (t 3)), .int (iI (t 4)), .int (iI (t 5)), .int (iI (t 6))])), (of, .inl (k4 0, 48, .inl (fun i9 => iI (f i9))))] H locs → lv_has ls 5 [(0, .ref lo), (1, .ref o), (2, .int (iI (sg))), (3, .ref ot), (4, .int (iI (((j : Nat) : Int))))] → W pp l ee ({ frames := 3, cells := 0, slots := 0, locals := 66 } : Room) ss mm ([.ref lo, .ref o, .int (iI (sg))] : List Value).toArray bl me co H locs (0) (0) (MQ bl (zQ D [(lo, .inr (4, [.ref lnow, .ref lsl, .ref ltr, .ref lcl, .ref lba, .ref ldu, .int (iI (((n : Nat) : Int))), .int (iI (((p : Nat) : Int))), .int (iI (((st : Nat) : Int))), .int (iI (cc)), .int (iI (bc)), .long (lI (pot)), .long (lI (gr)), .long (lI (bk))])), (lba, .inl (k4 1, 6, .inr (.inl (fun i9 => lI (bal i9))))), (o, .inr (2, [.ref ot, .ref og, .ref ou, .ref of, .int (iI (cb)), .int (iI (ca))])), (ot, .inr (3, [.ref osh, .ref ork, .int (iI (t 0)), .int (iI (t 1)), .int (iI (t 2)), .int (iI (t 3)), .int (iI (t 4)), .int (iI (t 5)), .int (iI (t 6))])), (of, .inl (k4 0, 48, .inl (fun i9 => iI (f i9))))] AA (q_c_X4_book k4 lo lnow lsl ltr lcl lba ldu n p st cc bc pot gr bk o ot og ou of cb ca osh ork t f bal sg)) ([.ref lo, .ref o, .int (iI (sg))] : List Value).toArray ss (0) (0) AA) (F0 mm 8 ls []) := by
    intro n9
    induction n9 with
    | zero => intro j H locs ls hn9 hj G hl; exact absurd hn9 (by omega)
    | succ n9 ih =>
      intro j H locs ls hn9 hj G hl
      have ih8_1 := @ih
      refine z_iload E hl 4 rfl dX4_book_8 ?_
      refine z_aload_n E hl 0 rfl dX4_book_10 rfl ?_
      refine kg_X4_41 E G 0 rfl rfl dX4_book_11 ?_
      refine z_icmp_ge (tgt := 43) E dX4_book_14 (by decide) ⟨by omega, by omega⟩ ⟨by omega, by omega⟩ (fun c_14 => ?_) (fun c_14 => ?_)
      · skip
        obtain rfl : j = n := by omega
        have b1 := bookP_b htm hf hsg
        have b2 := bookG_b htm hf hsg
        refine z_aload_n E hl 0 rfl dX4_book_43 rfl ?_
        refine z_dup E dX4_book_44 rfl ?_
        refine kg_X4_178 E G 0 rfl rfl dX4_book_45 ?_
        refine z_iload_n E hl 2 rfl dX4_book_48 rfl ?_
        refine z_aload_n E hl 3 rfl dX4_book_49 rfl ?_
        refine kg_X4_81 E G 3 rfl rfl dX4_book_50 ?_
        refine z_imul E dX4_book_53 ?_
        refine z_aload_n E hl 1 rfl dX4_book_54 rfl ?_
        refine z_iconst E dX4_book_55 ?_
        refine z_callV E G hl.1 (c_X2_sum l D k4 o ot og ou of cb ca f 2 (by decide)) kV_X4_150 ⟨rfl, rfl, Nat.le_of_ble_eq_true rfl, Nat.le_of_ble_eq_true rfl⟩ [2, 4] rfl (by decide) 2 2 rfl rfl rfl rfl rfl (Nat.le_of_ble_eq_true rfl) dX4_book_56 ⟨by first | exact Nat.le_of_ble_eq_true rfl | omega, by first | exact Nat.le_of_ble_eq_true rfl | omega⟩ (fun v9 w9 H locs hq G => ?_)
        obtain ⟨rfl, rfl⟩ := hq
        refine W.eq (g2 := F0 mm 59 ls [.int (iI (sumN (fun m => f (m * 8 + 2)) 6)), .int (iI ((sg) * (t 3))), .long (lI (pot)), .ref lo]) rfl ?_
        have G : zG D AA ss.heap [(lo, .inr (4, [.ref lnow, .ref lsl, .ref ltr, .ref lcl, .ref lba, .ref ldu, .int (iI (((j : Nat) : Int))), .int (iI (((p : Nat) : Int))), .int (iI (((st : Nat) : Int))), .int (iI (cc)), .int (iI (bc)), .long (lI (pot)), .long (lI (gr)), .long (lI (bk))])), (lba, .inl (k4 1, 6, .inr (.inl (fun i9 => lI ((bookB bal f sg j) i9))))), (o, .inr (2, [.ref ot, .ref og, .ref ou, .ref of, .int (iI (cb)), .int (iI (ca))])), (ot, .inr (3, [.ref osh, .ref ork, .int (iI (t 0)), .int (iI (t 1)), .int (iI (t 2)), .int (iI (t 3)), .int (iI (t 4)), .int (iI (t 5)), .int (iI (t 6))])), (of, .inl (k4 0, 48, .inl (fun i9 => iI (f i9))))] H locs := G
        refine z_aload_n E hl 1 rfl dX4_book_59 rfl ?_
        refine z_iconst E dX4_book_60 ?_
        refine z_callV E G hl.1 (c_X2_sum l D k4 o ot og ou of cb ca f 5 (by decide)) kV_X4_150 ⟨rfl, rfl, Nat.le_of_ble_eq_true rfl, Nat.le_of_ble_eq_true rfl⟩ [2, 4] rfl (by decide) 2 2 rfl rfl rfl rfl rfl (Nat.le_of_ble_eq_true rfl) dX4_book_61 ⟨by first | exact Nat.le_of_ble_eq_true rfl | omega, by first | exact Nat.le_of_ble_eq_true rfl | omega⟩ (fun v9 w9 H locs hq G => ?_)
        obtain ⟨rfl, rfl⟩ := hq
        refine W.eq (g2 := F0 mm 64 ls [.int (iI (sumN (fun m => f (m * 8 + 5)) 6)), .int (iI (sumN (fun m => f (m * 8 + 2)) 6)), .int (iI ((sg) * (t 3))), .long (lI (pot)), .ref lo]) rfl ?_
        have G : zG D AA ss.heap [(lo, .inr (4, [.ref lnow, .ref lsl, .ref ltr, .ref lcl, .ref lba, .ref ldu, .int (iI (((j : Nat) : Int))), .int (iI (((p : Nat) : Int))), .int (iI (((st : Nat) : Int))), .int (iI (cc)), .int (iI (bc)), .long (lI (pot)), .long (lI (gr)), .long (lI (bk))])), (lba, .inl (k4 1, 6, .inr (.inl (fun i9 => lI ((bookB bal f sg j) i9))))), (o, .inr (2, [.ref ot, .ref og, .ref ou, .ref of, .int (iI (cb)), .int (iI (ca))])), (ot, .inr (3, [.ref osh, .ref ork, .int (iI (t 0)), .int (iI (t 1)), .int (iI (t 2)), .int (iI (t 3)), .int (iI (t 4)), .int (iI (t 5)), .int (iI (t 6))])), (of, .inl (k4 0, 48, .inl (fun i9 => iI (f i9))))] H locs := G
        refine z_isub E dX4_book_64 ?_
        refine z_imul E dX4_book_65 ?_
        refine z_eq (y := bookP t f sg) rfl ?_
        refine z_i2l E dX4_book_66 ⟨by omega, by omega⟩ ?_
        refine z_ladd E dX4_book_67 ?_
        refine kp_X4_178 E G 0 rfl (Nat.le_of_ble_eq_true rfl) dX4_book_68 (fun H locs G => ?_)
        have G : zG D AA ss.heap [(lo, .inr (4, [.ref lnow, .ref lsl, .ref ltr, .ref lcl, .ref lba, .ref ldu, .int (iI (((j : Nat) : Int))), .int (iI (((p : Nat) : Int))), .int (iI (((st : Nat) : Int))), .int (iI (cc)), .int (iI (bc)), .long (lI ((pot) + (bookP t f sg))), .long (lI (gr)), .long (lI (bk))])), (lba, .inl (k4 1, 6, .inr (.inl (fun i9 => lI ((bookB bal f sg j) i9))))), (o, .inr (2, [.ref ot, .ref og, .ref ou, .ref of, .int (iI (cb)), .int (iI (ca))])), (ot, .inr (3, [.ref osh, .ref ork, .int (iI (t 0)), .int (iI (t 1)), .int (iI (t 2)), .int (iI (t 3)), .int (iI (t 4)), .int (iI (t 5)), .int (iI (t 6))])), (of, .inl (k4 0, 48, .inl (fun i9 => iI (f i9))))] H locs := G
        refine z_aload_n E hl 0 rfl dX4_book_71 rfl ?_
        refine z_dup E dX4_book_72 rfl ?_
        refine kg_X4_182 E G 0 rfl rfl dX4_book_73 ?_
        refine z_iload_n E hl 2 rfl dX4_book_76 rfl ?_
        refine z_aload_n E hl 3 rfl dX4_book_77 rfl ?_
        refine kg_X4_84 E G 3 rfl rfl dX4_book_78 ?_
        refine z_aload_n E hl 1 rfl dX4_book_81 rfl ?_
        refine z_iconst E dX4_book_82 ?_
        refine z_callV E G hl.1 (c_X2_sum l D k4 o ot og ou of cb ca f 3 (by decide)) kV_X4_150 ⟨rfl, rfl, Nat.le_of_ble_eq_true rfl, Nat.le_of_ble_eq_true rfl⟩ [2, 4] rfl (by decide) 2 2 rfl rfl rfl rfl rfl (Nat.le_of_ble_eq_true rfl) dX4_book_83 ⟨by first | exact Nat.le_of_ble_eq_true rfl | omega, by first | exact Nat.le_of_ble_eq_true rfl | omega⟩ (fun v9 w9 H locs hq G => ?_)
        obtain ⟨rfl, rfl⟩ := hq
        refine W.eq (g2 := F0 mm 86 ls [.int (iI (sumN (fun m => f (m * 8 + 3)) 6)), .int (iI (t 1)), .int (iI (sg)), .long (lI (gr)), .ref lo]) rfl ?_
        have G : zG D AA ss.heap [(lo, .inr (4, [.ref lnow, .ref lsl, .ref ltr, .ref lcl, .ref lba, .ref ldu, .int (iI (((j : Nat) : Int))), .int (iI (((p : Nat) : Int))), .int (iI (((st : Nat) : Int))), .int (iI (cc)), .int (iI (bc)), .long (lI ((pot) + (bookP t f sg))), .long (lI (gr)), .long (lI (bk))])), (lba, .inl (k4 1, 6, .inr (.inl (fun i9 => lI ((bookB bal f sg j) i9))))), (o, .inr (2, [.ref ot, .ref og, .ref ou, .ref of, .int (iI (cb)), .int (iI (ca))])), (ot, .inr (3, [.ref osh, .ref ork, .int (iI (t 0)), .int (iI (t 1)), .int (iI (t 2)), .int (iI (t 3)), .int (iI (t 4)), .int (iI (t 5)), .int (iI (t 6))])), (of, .inl (k4 0, 48, .inl (fun i9 => iI (f i9))))] H locs := G
        refine z_imul E dX4_book_86 ?_
        refine z_aload_n E hl 3 rfl dX4_book_87 rfl ?_
        refine kg_X4_87 E G 3 rfl rfl dX4_book_88 ?_
        refine z_aload_n E hl 1 rfl dX4_book_91 rfl ?_
        refine z_bipush E dX4_book_92 (by decide) ?_
        refine z_callV E G hl.1 (c_X2_sum l D k4 o ot og ou of cb ca f 6 (by decide)) kV_X4_150 ⟨rfl, rfl, Nat.le_of_ble_eq_true rfl, Nat.le_of_ble_eq_true rfl⟩ [2, 4] rfl (by decide) 2 2 rfl rfl rfl rfl rfl (Nat.le_of_ble_eq_true rfl) dX4_book_94 ⟨by first | exact Nat.le_of_ble_eq_true rfl | omega, by first | exact Nat.le_of_ble_eq_true rfl | omega⟩ (fun v9 w9 H locs hq G => ?_)
        obtain ⟨rfl, rfl⟩ := hq
        refine W.eq (g2 := F0 mm 97 ls [.int (iI (sumN (fun m => f (m * 8 + 6)) 6)), .int (iI (t 2)), .int (iI ((t 1) * (sumN (fun m => f (m * 8 + 3)) 6))), .int (iI (sg)), .long (lI (gr)), .ref lo]) rfl ?_
        have G : zG D AA ss.heap [(lo, .inr (4, [.ref lnow, .ref lsl, .ref ltr, .ref lcl, .ref lba, .ref ldu, .int (iI (((j : Nat) : Int))), .int (iI (((p : Nat) : Int))), .int (iI (((st : Nat) : Int))), .int (iI (cc)), .int (iI (bc)), .long (lI ((pot) + (bookP t f sg))), .long (lI (gr)), .long (lI (bk))])), (lba, .inl (k4 1, 6, .inr (.inl (fun i9 => lI ((bookB bal f sg j) i9))))), (o, .inr (2, [.ref ot, .ref og, .ref ou, .ref of, .int (iI (cb)), .int (iI (ca))])), (ot, .inr (3, [.ref osh, .ref ork, .int (iI (t 0)), .int (iI (t 1)), .int (iI (t 2)), .int (iI (t 3)), .int (iI (t 4)), .int (iI (t 5)), .int (iI (t 6))])), (of, .inl (k4 0, 48, .inl (fun i9 => iI (f i9))))] H locs := G
        refine z_imul E dX4_book_97 ?_
        refine z_isub E dX4_book_98 ?_
        refine z_imul E dX4_book_99 ?_
        refine z_eq (y := bookG t f sg) rfl ?_
        refine z_i2l E dX4_book_100 ⟨by omega, by omega⟩ ?_
        refine z_ladd E dX4_book_101 ?_
        refine kp_X4_182 E G 0 rfl (Nat.le_of_ble_eq_true rfl) dX4_book_102 (fun H locs G => ?_)
        have G : zG D AA ss.heap [(lo, .inr (4, [.ref lnow, .ref lsl, .ref ltr, .ref lcl, .ref lba, .ref ldu, .int (iI (((j : Nat) : Int))), .int (iI (((p : Nat) : Int))), .int (iI (((st : Nat) : Int))), .int (iI (cc)), .int (iI (bc)), .long (lI ((pot) + (bookP t f sg))), .long (lI ((gr) + (bookG t f sg))), .long (lI (bk))])), (lba, .inl (k4 1, 6, .inr (.inl (fun i9 => lI ((bookB bal f sg j) i9))))), (o, .inr (2, [.ref ot, .ref og, .ref ou, .ref of, .int (iI (cb)), .int (iI (ca))])), (ot, .inr (3, [.ref osh, .ref ork, .int (iI (t 0)), .int (iI (t 1)), .int (iI (t 2)), .int (iI (t 3)), .int (iI (t 4)), .int (iI (t 5)), .int (iI (t 6))])), (of, .inl (k4 0, 48, .inl (fun i9 => iI (f i9))))] H locs := G
        exact z_vret (w' := [(lo, .inr (4, [.ref lnow, .ref lsl, .ref ltr, .ref lcl, .ref lba, .ref ldu, .int (iI (((j : Nat) : Int))), .int (iI (((p : Nat) : Int))), .int (iI (((st : Nat) : Int))), .int (iI (cc)), .int (iI (bc)), .long (lI ((pot) + (bookP t f sg))), .long (lI ((gr) + (bookG t f sg))), .long (lI (bk))])), (lba, .inl (k4 1, 6, .inr (.inl (fun i9 => lI ((bookB bal f sg j) i9))))), (o, .inr (2, [.ref ot, .ref og, .ref ou, .ref of, .int (iI (cb)), .int (iI (ca))])), (ot, .inr (3, [.ref osh, .ref ork, .int (iI (t 0)), .int (iI (t 1)), .int (iI (t 2)), .int (iI (t 3)), .int (iI (t 4)), .int (iI (t 5)), .int (iI (t 6))])), (of, .inl (k4 0, 48, .inl (fun i9 => iI (f i9))))]) E hr hlocks G dX4_book_105 (by omega) (by omega) (zx0 rfl) ⟨rfl, rfl⟩
      · skip
        refine z_aload_n E hl 0 rfl dX4_book_17 rfl ?_
        refine kg_X4_34 E G 0 rfl rfl dX4_book_18 ?_
        refine z_iload E hl 4 rfl dX4_book_21 ?_
        refine z_iload_n E hl 2 rfl dX4_book_23 rfl ?_
        refine z_aload_n E hl 1 rfl dX4_book_24 rfl ?_
        refine z_iload E hl 4 rfl dX4_book_25 ?_
        refine z_bipush E dX4_book_27 (by decide) ?_
        refine z_callV E G hl.1 (c_X2_amount l D k4 o ot og ou of cb ca f j 7 (by omega) (by decide)) kV_X4_169 ⟨rfl, rfl, Nat.le_of_ble_eq_true rfl, Nat.le_of_ble_eq_true rfl⟩ [2, 4] rfl (by decide) 2 2 rfl rfl rfl rfl rfl (Nat.le_of_ble_eq_true rfl) dX4_book_29 ⟨by first | exact Nat.le_of_ble_eq_true rfl | omega, by first | exact Nat.le_of_ble_eq_true rfl | omega⟩ (fun v9 w9 H locs hq G => ?_)
        obtain ⟨rfl, rfl⟩ := hq
        refine W.eq (g2 := F0 mm 32 ls [.int (iI (f (j * 8 + 7))), .int (iI (sg)), .int (iI (((j : Nat) : Int))), .ref lba]) rfl ?_
        have G : zG D AA ss.heap [(lo, .inr (4, [.ref lnow, .ref lsl, .ref ltr, .ref lcl, .ref lba, .ref ldu, .int (iI (((n : Nat) : Int))), .int (iI (((p : Nat) : Int))), .int (iI (((st : Nat) : Int))), .int (iI (cc)), .int (iI (bc)), .long (lI (pot)), .long (lI (gr)), .long (lI (bk))])), (lba, .inl (k4 1, 6, .inr (.inl (fun i9 => lI ((bookB bal f sg j) i9))))), (o, .inr (2, [.ref ot, .ref og, .ref ou, .ref of, .int (iI (cb)), .int (iI (ca))])), (ot, .inr (3, [.ref osh, .ref ork, .int (iI (t 0)), .int (iI (t 1)), .int (iI (t 2)), .int (iI (t 3)), .int (iI (t 4)), .int (iI (t 5)), .int (iI (t 6))])), (of, .inl (k4 0, 48, .inl (fun i9 => iI (f i9))))] H locs := G
        refine z_imul E dX4_book_32 ?_
        have b3 := sgn_b hsg (hf.2 j (by omega))
        refine z_i2l E dX4_book_33 ⟨by omega, by omega⟩ ?_
        refine z_callS E G hl.1 (c_X4_add l D k4 lba 6 ((bookB bal f sg j)) j (sg * f (j * 8 + 7)) (by omega) (by decide)) kS_X4_188 ⟨rfl, rfl, Nat.le_of_ble_eq_true rfl, Nat.le_of_ble_eq_true rfl⟩ [1] rfl (by decide) rfl rfl (Nat.le_of_ble_eq_true rfl) dX4_book_34 ⟨by first | exact Nat.le_of_ble_eq_true rfl | omega, by first | exact Nat.le_of_ble_eq_true rfl | omega⟩ (fun v9 w9 H locs hq G => ?_)
        obtain ⟨rfl, rfl⟩ := hq
        refine W.eq (g2 := F0 mm 37 ls []) rfl ?_
        have G : zG D AA ss.heap [(lo, .inr (4, [.ref lnow, .ref lsl, .ref ltr, .ref lcl, .ref lba, .ref ldu, .int (iI (((n : Nat) : Int))), .int (iI (((p : Nat) : Int))), .int (iI (((st : Nat) : Int))), .int (iI (cc)), .int (iI (bc)), .long (lI (pot)), .long (lI (gr)), .long (lI (bk))])), (lba, .inl (k4 1, 6, .inr (.inl (fun i9 => lI ((up (bookB bal f sg j) j ((bookB bal f sg j) j + (sg * f (j * 8 + 7)))) i9))))), (o, .inr (2, [.ref ot, .ref og, .ref ou, .ref of, .int (iI (cb)), .int (iI (ca))])), (ot, .inr (3, [.ref osh, .ref ork, .int (iI (t 0)), .int (iI (t 1)), .int (iI (t 2)), .int (iI (t 3)), .int (iI (t 4)), .int (iI (t 5)), .int (iI (t 6))])), (of, .inl (k4 0, 48, .inl (fun i9 => iI (f i9))))] H locs := G
        refine z_iinc E [(4, .int (iI (((j : Nat) : Int) + 1))), (0, .ref lo), (1, .ref o), (2, .int (iI (sg))), (3, .ref ot)] dX4_book_37 hl (k := 4) rfl (by decide) rfl (fun ls hl => ?_)
        refine z_goto (tgt := 8) E dX4_book_40 (by decide) ?_
        exact ih8_1 (j + 1) _ _ _ (by omega) (by omega) G (lv_sub hl [1, 2, 3, 4, 0] rfl)
  exact hp8_1 (n + 1) 0 _ _ _ (by omega) (by omega) G (lv_sub hl [2, 3, 4, 1, 0] rfl)
