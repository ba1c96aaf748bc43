def q_c_X5_termsOf (k4 : Nat → ClassId) (mo mnw mte mge mus mco mfl mba mdu : Nat) (th : Int) (n p st : Nat) (cc bc pot gr bk btw bhd : Int) (s : Nat) (TE : Nat → Int) : Option Value → va_W → Prop := (fun (v9 : Option Value) (w9 : va_W) => ∃ (q9 : Nat), v9 = some (.ref q9) ∧ w9 = [(mo, .inr (5, [.int (iI (th)), .int (iI (((n : Nat) : Int))), .ref mnw, .ref mte, .ref mge, .ref mus, .int (iI (((p : Nat) : Int))), .int (iI (((st : Nat) : Int))), .int (iI (cc)), .int (iI (bc)), .ref mco, .ref mfl, .ref mba, .ref mdu, .long (lI (pot)), .long (lI (gr)), .long (lI (bk)), .int (iI (btw)), .int (iI (bhd))])), (mte, .inl (k4 0, 912, .inl (fun i9 => iI (TE i9)))), (q9, .inl (k4 0, 19, .inl (fun i9 => iI ((fun i => TE (19 * s + i)) i9))))])
set_option maxHeartbeats 4000000 in
set_option maxRecDepth 100000 in
theorem c_X5_termsOf (l : Launch) (D : va_G) (k4 : Nat → ClassId) (mo mnw mte mge mus mco mfl mba mdu : Nat) (th : Int) (n p st : Nat) (cc bc pot gr bk btw bhd : Int) (s : Nat) (TE : Nat → Int) (hs : s < 48) : zC l yX5_termsOf (zW yX5_termsOf cX5_termsOf 3 (some (.array .int))) ({ frames := 1, cells := 1, slots := 19, locals := 18 } : Room) D k4 [.ref mo, .int (iI (((s : Nat) : Int)))] [(mo, .inr (5, [.int (iI (th)), .int (iI (((n : Nat) : Int))), .ref mnw, .ref mte, .ref mge, .ref mus, .int (iI (((p : Nat) : Int))), .int (iI (((st : Nat) : Int))), .int (iI (cc)), .int (iI (bc)), .ref mco, .ref mfl, .ref mba, .ref mdu, .long (lI (pot)), .long (lI (gr)), .long (lI (bk)), .int (iI (btw)), .int (iI (bhd))])), (mte, .inl (k4 0, 912, .inl (fun i9 => iI (TE i9))))] (1) (19) (q_c_X5_termsOf k4 mo mnw mte mge mus mco mfl mba mdu th n p st cc bc pot gr bk btw bhd s TE) := by
  refine zC_of (cc := cX5_termsOf) (by decide) (Nat.le_of_ble_eq_true rfl) (fun pp ee ss mm bl me co AA H locs ls E hr hlocks hin G hl => ?_)
  have hl : lv_has ls 3 [(0, .ref mo), (1, .int (iI (((s : Nat) : Int))))] := hl
  refine z_bipush E dX5_termsOf_0 (by decide) ?_
  refine z_newa_int E G (n := 19) rfl zw_31 (by first | exact Nat.le_of_ble_eq_true rfl | omega | (show _ ≤ (1); omega)) (by first | exact Nat.le_of_ble_eq_true rfl | omega | (show _ ≤ (19); omega)) (by decide) dX5_termsOf_2 (fun q1 H G => ?_)
  have G : zG D AA ss.heap [(mo, .inr (5, [.int (iI (th)), .int (iI (((n : Nat) : Int))), .ref mnw, .ref mte, .ref mge, .ref mus, .int (iI (((p : Nat) : Int))), .int (iI (((st : Nat) : Int))), .int (iI (cc)), .int (iI (bc)), .ref mco, .ref mfl, .ref mba, .ref mdu, .long (lI (pot)), .long (lI (gr)), .long (lI (bk)), .int (iI (btw)), .int (iI (bhd))])), (mte, .inl (k4 0, 912, .inl (fun i9 => iI (TE i9)))), (q1, .inl (k4 0, 19, .inl (fun i9 => iI ((fun _ => 0) i9))))] H locs := G
  refine z_astore_n E [(2, .ref q1), (0, .ref mo), (1, .int (iI (((s : Nat) : Int))))] dX5_termsOf_4 rfl hl (by decide) rfl (fun ls hl => ?_)
  refine z_aload_n E hl 1 rfl dX5_termsOf_5 rfl ?_
  refine kg_X5_13 E G 0 rfl rfl dX5_termsOf_6 ?_
  refine z_bipush E dX5_termsOf_9 (by decide) ?_
  refine z_iload_n E hl 2 rfl dX5_termsOf_11 rfl ?_
  refine z_imul E dX5_termsOf_12 ?_
  refine z_aload_n E hl 0 rfl dX5_termsOf_13 rfl ?_
  refine z_iconst E dX5_termsOf_14 ?_
  refine z_bipush E dX5_termsOf_15 (by decide) ?_
  refine z_copyi E G hl.1 zw_416 zw_417 zw_418 zw_419 1 2 rfl rfl (19 * s) (0) (19) (by first | rfl | omega) (by first | rfl | omega) (by first | rfl | omega) (by omega) (by omega) (by decide) (by decide) (Nat.le_of_ble_eq_true rfl) (Nat.le_of_ble_eq_true rfl) dX5_termsOf_17 (fun H locs G => ?_)
  have G : zG D AA ss.heap [(mo, .inr (5, [.int (iI (th)), .int (iI (((n : Nat) : Int))), .ref mnw, .ref mte, .ref mge, .ref mus, .int (iI (((p : Nat) : Int))), .int (iI (((st : Nat) : Int))), .int (iI (cc)), .int (iI (bc)), .ref mco, .ref mfl, .ref mba, .ref mdu, .long (lI (pot)), .long (lI (gr)), .long (lI (bk)), .int (iI (btw)), .int (iI (bhd))])), (mte, .inl (k4 0, 912, .inl (fun i9 => iI (TE i9)))), (q1, .inl (k4 0, 19, .inl (fun i9 => iI ((cpyI TE (fun _ => 0) (19 * s) (0) (19)) i9))))] H locs := G
  refine z_aload_n E hl 0 rfl dX5_termsOf_20 rfl ?_
  have G := z_ext G 2 rfl (F' := (fun i => TE (19 * s + i))) (fun k hk => by show (if 0 ≤ k ∧ k < 0 + 19 then TE (19 * s + (k - 0)) else 0) = TE (19 * s + k); rw [if_pos (by omega)]; rfl)
  exact z_aret (w' := [(mo, .inr (5, [.int (iI (th)), .int (iI (((n : Nat) : Int))), .ref mnw, .ref mte, .ref mge, .ref mus, .int (iI (((p : Nat) : Int))), .int (iI (((st : Nat) : Int))), .int (iI (cc)), .int (iI (bc)), .ref mco, .ref mfl, .ref mba, .ref mdu, .long (lI (pot)), .long (lI (gr)), .long (lI (bk)), .int (iI (btw)), .int (iI (bhd))])), (mte, .inl (k4 0, 912, .inl (fun i9 => iI (TE i9)))), (q1, .inl (k4 0, 19, .inl (fun i9 => iI ((fun i => TE (19 * s + i)) i9))))]) E hr (by first | exact Or.inl ⟨_, rfl⟩ | exact Or.inr ⟨_, rfl⟩) hlocks G dX5_termsOf_21 (by omega) (by omega) (⟨[q1], rfl⟩) ⟨q1, rfl, rfl⟩

def q_c_X5_book (k4 : Nat → ClassId) (mo mnw mte mge mus mco mfl mba mdu : Nat) (th : Int) (n p st : Nat) (cc bc pot gr bk btw bhd : Int) (s : Nat) (TE : Nat → Int) (FL BA : Nat → Int) (sg : Int) : Option Value → va_W → Prop := (fun (v9 : Option Value) (w9 : va_W) => v9 = none ∧ w9 = [(mo, .inr (5, [.int (iI (th)), .int (iI (((n : Nat) : Int))), .ref mnw, .ref mte, .ref mge, .ref mus, .int (iI (((p : Nat) : Int))), .int (iI (((st : Nat) : Int))), .int (iI (cc)), .int (iI (bc)), .ref mco, .ref mfl, .ref mba, .ref mdu, .long (lI (pot + mP (fun i => TE (19 * s + i)) (fun i => FL (48 * s + i)) sg n)), .long (lI (gr + mG (fun i => TE (19 * s + i)) (fun i => FL (48 * s + i)) sg n)), .long (lI (bk)), .int (iI (btw)), .int (iI (bhd))])), (mte, .inl (k4 0, 912, .inl (fun i9 => iI (TE i9)))), (mfl, .inl (k4 0, 2304, .inl (fun i9 => iI (FL i9)))), (mba, .inl (k4 1, 6, .inr (.inl (fun i9 => lI ((bookB BA (fun i => FL (48 * s + i)) sg n) i9)))))])
set_option maxHeartbeats 4000000 in
set_option maxRecDepth 100000 in
theorem c_X5_book (l : Launch) (D : va_G) (k4 : Nat → ClassId) (mo mnw mte mge mus mco mfl mba mdu : Nat) (th : Int) (n p st : Nat) (cc bc pot gr bk btw bhd : Int) (s : Nat) (TE : Nat → Int) (FL BA : Nat → Int) (sg : Int) (hn : n ≤ 6) (hs : s < 48) (ht : tOK (fun i => TE (19 * s + i))) (hf : flOK (fun i => FL (48 * s + i))) (hsg : sg = 1 ∨ sg = -1) : zC l yX5_book (zW yX5_book cX5_book 6 none) ({ frames := 2, cells := 1, slots := 19, locals := 40 } : Room) D k4 [.ref mo, .int (iI (((s : Nat) : Int))), .int (iI (sg))] [(mo, .inr (5, [.int (iI (th)), .int (iI (((n : Nat) : Int))), .ref mnw, .ref mte, .ref mge, .ref mus, .int (iI (((p : Nat) : Int))), .int (iI (((st : Nat) : Int))), .int (iI (cc)), .int (iI (bc)), .ref mco, .ref mfl, .ref mba, .ref mdu, .long (lI (pot)), .long (lI (gr)), .long (lI (bk)), .int (iI (btw)), .int (iI (bhd))])), (mte, .inl (k4 0, 912, .inl (fun i9 => iI (TE i9)))), (mfl, .inl (k4 0, 2304, .inl (fun i9 => iI (FL i9)))), (mba, .inl (k4 1, 6, .inr (.inl (fun i9 => lI (BA i9)))))] (1) (19) (q_c_X5_book k4 mo mnw mte mge mus mco mfl mba mdu th n p st cc bc pot gr bk btw bhd s TE FL BA sg) := by
  refine zC_of (cc := cX5_book) (by decide) (Nat.le_of_ble_eq_true rfl) (fun pp ee ss mm bl me co AA H locs ls E hr hlocks hin G hl => ?_)
  have hl : lv_has ls 6 [(0, .ref mo), (1, .int (iI (((s : Nat) : Int)))), (2, .int (iI (sg)))] := hl
  refine z_aload_n E hl 0 rfl dX5_book_0 rfl ?_
  refine z_iload_n E hl 1 rfl dX5_book_1 rfl ?_
  refine z_callV E G hl.1 (c_X5_termsOf l D k4 mo mnw mte mge mus mco mfl mba mdu th n p st cc bc pot gr bk btw bhd s TE hs) kV_X5_128 ⟨rfl, rfl, Nat.le_of_ble_eq_true rfl, Nat.le_of_ble_eq_true rfl⟩ [0, 1] rfl (by decide) 0 5 rfl rfl rfl rfl rfl (Nat.le_of_ble_eq_true rfl) dX5_book_2 ⟨(by first | exact Nat.le_of_ble_eq_true rfl | omega | (show _ ≤ (1); omega)), (by first | exact Nat.le_of_ble_eq_true rfl | omega | (show _ ≤ (19); omega))⟩ (fun v9 w9 H locs hq G => ?_)
  obtain ⟨q1, rfl, rfl⟩ := hq
  refine W.eq (g2 := F0 mm 5 ls [.ref q1]) rfl ?_
  have G : zG D AA ss.heap [(mo, .inr (5, [.int (iI (th)), .int (iI (((n : Nat) : Int))), .ref mnw, .ref mte, .ref mge, .ref mus, .int (iI (((p : Nat) : Int))), .int (iI (((st : Nat) : Int))), .int (iI (cc)), .int (iI (bc)), .ref mco, .ref mfl, .ref mba, .ref mdu, .long (lI (pot)), .long (lI (gr)), .long (lI (bk)), .int (iI (btw)), .int (iI (bhd))])), (mte, .inl (k4 0, 912, .inl (fun i9 => iI (TE i9)))), (mfl, .inl (k4 0, 2304, .inl (fun i9 => iI (FL i9)))), (mba, .inl (k4 1, 6, .inr (.inl (fun i9 => lI (BA i9))))), (q1, .inl (k4 0, 19, .inl (fun i9 => iI ((fun i => TE (19 * s + i)) i9))))] H locs := G
  refine z_astore_n E [(3, .ref q1), (0, .ref mo), (1, .int (iI (((s : Nat) : Int)))), (2, .int (iI (sg)))] dX5_book_5 rfl hl (by decide) rfl (fun ls hl => ?_)
  refine z_iconst E dX5_book_6 ?_
  refine z_istore E [(4, .int (iI (0))), (3, .ref q1), (0, .ref mo), (1, .int (iI (((s : Nat) : Int)))), (2, .int (iI (sg)))] dX5_book_7 hl (by decide) rfl (fun ls hl => ?_)
  have hp9_1 : ∀ (n9 : Nat) (j : Nat) (H : Heap) (locs : List Loc) (ls : Array Slot), (n - j < n9) → (j ≤ n) → zG D AA ss.heap [(mo, .inr (5, [.int (iI (th)), .int (iI (((n : Nat) : Int))), .ref mnw, .ref mte, .ref mge, .ref mus, .int (iI (((p : Nat) : Int))), .int (iI (((st : Nat) : Int))), .int (iI (cc)), .int (iI (bc)), .ref mco, .ref mfl, .ref mba, .ref mdu, .long (lI (pot + mP (fun i => TE (19 * s + i)) (fun i => FL (48 * s + i)) sg j)), .long (lI (gr + mG (fun i => TE (19 * s + i)) (fun i => FL (48 * s + i)) sg j)), .long (lI (bk)), .int (iI (btw)), .int (iI (bhd))])), (mte, .inl (k4 0, 912, .inl (fun i9 => iI (TE i9)))), (mfl, .inl (k4 0, 2304, .inl (fun i9 => iI (FL i9)))), (mba, .inl (k4 1, 6, .inr (.inl (fun i9 => lI ((bookB BA (fun i => FL (48 * s + i)) sg j) i9))))), (q1, .inl (k4 0, 19, .inl (fun i9 => iI ((fun i => TE (19 * s + i)) i9))))] H locs → lv_has ls 6 [(0, .ref mo), (1, .int (iI (((s : Nat) : Int)))), (2, .int (iI (sg))), (3, .ref q1), (4, .int (iI (((j : Nat) : Int))))] → W pp l ee ({ frames := 2, cells := 1, slots := 19, locals := 40 } : Room) ss mm ([.ref mo, .int (iI (((s : Nat) : Int))), .int (iI (sg))] : List Value).toArray bl me co H locs (0 + 1) (0 + 19) (MQ bl (zQ D [(mo, .inr (5, [.int (iI (th)), .int (iI (((n : Nat) : Int))), .ref mnw, .ref mte, .ref mge, .ref mus, .int (iI (((p : Nat) : Int))), .int (iI (((st : Nat) : Int))), .int (iI (cc)), .int (iI (bc)), .ref mco, .ref mfl, .ref mba, .ref mdu, .long (lI (pot)), .long (lI (gr)), .long (lI (bk)), .int (iI (btw)), .int (iI (bhd))])), (mte, .inl (k4 0, 912, .inl (fun i9 => iI (TE i9)))), (mfl, .inl (k4 0, 2304, .inl (fun i9 => iI (FL i9)))), (mba, .inl (k4 1, 6, .inr (.inl (fun i9 => lI (BA i9)))))] AA (q_c_X5_book k4 mo mnw mte mge mus mco mfl mba mdu th n p st cc bc pot gr bk btw bhd s TE FL BA sg)) ([.ref mo, .int (iI (((s : Nat) : Int))), .int (iI (sg))] : List Value).toArray ss (1) (19) AA) (F0 mm 9 ls []) := by
    intro n9
    induction n9 with
    | zero => intro j H locs ls hn9 hj G hl; exact absurd hn9 (by omega)
    | succ n9 ih =>
      intro j H locs ls hn9 hj G hl
      have ih9_1 := @ih
      refine z_iload E hl 4 rfl dX5_book_9 ?_
      refine z_aload_n E hl 0 rfl dX5_book_11 rfl ?_
      refine kg_X5_39 E G 0 rfl rfl dX5_book_12 ?_
      refine z_icmp_ge (tgt := 134) E dX5_book_15 (by decide) ⟨by omega, by omega⟩ ⟨by omega, by omega⟩ (fun c_15 => ?_) (fun c_15 => ?_)
      · skip
        obtain rfl : j = n := by omega
        have G : zG D AA ss.heap [(mo, .inr (5, [.int (iI (th)), .int (iI (((j : Nat) : Int))), .ref mnw, .ref mte, .ref mge, .ref mus, .int (iI (((p : Nat) : Int))), .int (iI (((st : Nat) : Int))), .int (iI (cc)), .int (iI (bc)), .ref mco, .ref mfl, .ref mba, .ref mdu, .long (lI (pot + mP (fun i => TE (19 * s + i)) (fun i => FL (48 * s + i)) sg j)), .long (lI (gr + mG (fun i => TE (19 * s + i)) (fun i => FL (48 * s + i)) sg j)), .long (lI (bk)), .int (iI (btw)), .int (iI (bhd))])), (mte, .inl (k4 0, 912, .inl (fun i9 => iI (TE i9)))), (mfl, .inl (k4 0, 2304, .inl (fun i9 => iI (FL i9)))), (mba, .inl (k4 1, 6, .inr (.inl (fun i9 => lI ((bookB BA (fun i => FL (48 * s + i)) sg j) i9)))))] H locs := (G.drop [0, 1, 2, 3] rfl rfl)
        exact z_vret (w' := [(mo, .inr (5, [.int (iI (th)), .int (iI (((j : Nat) : Int))), .ref mnw, .ref mte, .ref mge, .ref mus, .int (iI (((p : Nat) : Int))), .int (iI (((st : Nat) : Int))), .int (iI (cc)), .int (iI (bc)), .ref mco, .ref mfl, .ref mba, .ref mdu, .long (lI (pot + mP (fun i => TE (19 * s + i)) (fun i => FL (48 * s + i)) sg j)), .long (lI (gr + mG (fun i => TE (19 * s + i)) (fun i => FL (48 * s + i)) sg j)), .long (lI (bk)), .int (iI (btw)), .int (iI (bhd))])), (mte, .inl (k4 0, 912, .inl (fun i9 => iI (TE i9)))), (mfl, .inl (k4 0, 2304, .inl (fun i9 => iI (FL i9)))), (mba, .inl (k4 1, 6, .inr (.inl (fun i9 => lI ((bookB BA (fun i => FL (48 * s + i)) sg j) i9)))))]) E hr hlocks G dX5_book_134 (by omega) (by omega) (zx0 rfl) ⟨rfl, rfl⟩
      · skip
        have y1 := hf.1 j (by omega)
        have y2 := hf.2 j (by omega)
        have y3 : 0 ≤ FL (48 * s + (j * 8 + 2)) ∧ FL (48 * s + (j * 8 + 2)) ≤ 5000 := y1 2 (by decide)
        have y4 : 0 ≤ FL (48 * s + (j * 8 + 5)) ∧ FL (48 * s + (j * 8 + 5)) ≤ 5000 := y1 5 (by decide)
        have y5 : 0 ≤ FL (48 * s + (j * 8 + 3)) ∧ FL (48 * s + (j * 8 + 3)) ≤ 5000 := y1 3 (by decide)
        have y6 : 0 ≤ FL (48 * s + (j * 8 + 6)) ∧ FL (48 * s + (j * 8 + 6)) ≤ 5000 := y1 6 (by decide)
        have y7 : -10000000 ≤ FL (48 * s + (j * 8 + 7)) ∧ FL (48 * s + (j * 8 + 7)) ≤ 10000000 := y2
        have t1 : 0 ≤ TE (19 * s + 1) ∧ TE (19 * s + 1) ≤ 100 := ht.2.1
        have t2 : 0 ≤ TE (19 * s + 2) ∧ TE (19 * s + 2) ≤ 100 := ht.2.2.1
        have t3 : 0 ≤ TE (19 * s + 3) ∧ TE (19 * s + 3) ≤ 100 := ht.2.2.2.1
        have s1 := sgn_b hsg y7
        have s2 := mul3_b hsg t3 (d := FL (48 * s + (j * 8 + 2)) - FL (48 * s + (j * 8 + 5))) (by omega)
        have m1 := mulB t1.1 t1.2 y5.1 y5.2
        have m2 := mulB t2.1 t2.2 y6.1 y6.2
        have s3 := sgn_b hsg (x := TE (19 * s + 1) * FL (48 * s + (j * 8 + 3)) - TE (19 * s + 2) * FL (48 * s + (j * 8 + 6))) (B := 500000) (by omega)
        refine z_bipush E dX5_book_18 (by decide) ?_
        refine z_bipush E dX5_book_20 (by decide) ?_
        refine z_iload_n E hl 1 rfl dX5_book_22 rfl ?_
        refine z_imul E dX5_book_23 ?_
        refine z_iload E hl 4 rfl dX5_book_24 ?_
        refine z_iadd E dX5_book_26 ?_
        refine z_imul E dX5_book_27 ?_
        refine z_istore E [(5, .int (iI ((8) * (((6) * (((s : Nat) : Int))) + (((j : Nat) : Int)))))), (0, .ref mo), (1, .int (iI (((s : Nat) : Int)))), (2, .int (iI (sg))), (3, .ref q1), (4, .int (iI (((j : Nat) : Int))))] dX5_book_28 hl (by decide) rfl (fun ls hl => ?_)
        refine z_aload_n E hl 1 rfl dX5_book_30 rfl ?_
        refine kg_X5_28 E G 0 rfl rfl dX5_book_31 ?_
        refine z_iload E hl 5 rfl dX5_book_34 ?_
        refine lv_dup2_11 E.1 E.2.1 dX5_book_36 rfl rfl ?_
        refine z_lald E G 3 rfl (j) rfl (by omega) (by decide) dX5_book_37 ?_
        refine z_iload_n E hl 3 rfl dX5_book_38 rfl ?_
        refine z_aload_n E hl 1 rfl dX5_book_39 rfl ?_
        refine kg_X5_25 E G 0 rfl rfl dX5_book_40 ?_
        refine z_iload E hl 0 rfl dX5_book_43 ?_
        refine z_bipush E dX5_book_45 (by decide) ?_
        refine z_iadd E dX5_book_47 ?_
        refine z_iald E G 2 rfl ((48 * s + (j * 8 + 7))) (by omega) (by omega) (by decide) dX5_book_48 ?_
        refine z_imul E dX5_book_49 ?_
        refine z_i2l E dX5_book_50 ⟨by omega, by omega⟩ ?_
        refine z_ladd E dX5_book_51 ?_
        refine z_last E G 3 rfl (j) rfl (by omega) (by decide) dX5_book_52 (fun H locs G => ?_)
        have G : zG D AA ss.heap [(mo, .inr (5, [.int (iI (th)), .int (iI (((n : Nat) : Int))), .ref mnw, .ref mte, .ref mge, .ref mus, .int (iI (((p : Nat) : Int))), .int (iI (((st : Nat) : Int))), .int (iI (cc)), .int (iI (bc)), .ref mco, .ref mfl, .ref mba, .ref mdu, .long (lI (pot + mP (fun i => TE (19 * s + i)) (fun i => FL (48 * s + i)) sg j)), .long (lI (gr + mG (fun i => TE (19 * s + i)) (fun i => FL (48 * s + i)) sg j)), .long (lI (bk)), .int (iI (btw)), .int (iI (bhd))])), (mte, .inl (k4 0, 912, .inl (fun i9 => iI (TE i9)))), (mfl, .inl (k4 0, 2304, .inl (fun i9 => iI (FL i9)))), (mba, .inl (k4 1, 6, .inr (.inl (fun i9 => lI ((up (bookB BA (fun i => FL (48 * s + i)) sg j) (j) (((bookB BA (fun i => FL (48 * s + i)) sg j) j) + ((sg) * (FL ((48 * s + (j * 8 + 7))))))) i9))))), (q1, .inl (k4 0, 19, .inl (fun i9 => iI ((fun i => TE (19 * s + i)) i9))))] H locs := G
        refine z_aload_n E hl 1 rfl dX5_book_53 rfl ?_
        refine z_dup E dX5_book_54 rfl ?_
        refine kg_X5_132 E G 0 rfl rfl dX5_book_55 ?_
        refine z_iload_n E hl 3 rfl dX5_book_58 rfl ?_
        refine z_aload_n E hl 4 rfl dX5_book_59 rfl ?_
        refine z_iconst E dX5_book_60 ?_
        refine z_iald E G 4 rfl (3) rfl (by decide) (by decide) dX5_book_61 ?_
        refine z_imul E dX5_book_62 ?_
        refine z_aload_n E hl 1 rfl dX5_book_63 rfl ?_
        refine kg_X5_25 E G 0 rfl rfl dX5_book_64 ?_
        refine z_iload E hl 0 rfl dX5_book_67 ?_
        refine z_iconst E dX5_book_69 ?_
        refine z_iadd E dX5_book_70 ?_
        refine z_iald E G 2 rfl ((48 * s + (j * 8 + 2))) (by omega) (by omega) (by decide) dX5_book_71 ?_
        refine z_aload_n E hl 1 rfl dX5_book_72 rfl ?_
        refine kg_X5_25 E G 0 rfl rfl dX5_book_73 ?_
        refine z_iload E hl 0 rfl dX5_book_76 ?_
        refine z_iconst E dX5_book_78 ?_
        refine z_iadd E dX5_book_79 ?_
        refine z_iald E G 2 rfl ((48 * s + (j * 8 + 5))) (by omega) (by omega) (by decide) dX5_book_80 ?_
        refine z_isub E dX5_book_81 ?_
        refine z_imul E dX5_book_82 ?_
        refine z_i2l E dX5_book_83 ⟨by omega, by omega⟩ ?_
        refine z_ladd E dX5_book_84 ?_
        refine z_eql (y := pot + mP (fun i => TE (19 * s + i)) (fun i => FL (48 * s + i)) sg (j + 1)) (by rw [mP_s]; exact Int.add_assoc _ _ _) ?_
        refine kp_X5_132 E G 0 rfl (Nat.le_of_ble_eq_true rfl) dX5_book_85 (fun H locs G => ?_)
        have G : zG D AA ss.heap [(mo, .inr (5, [.int (iI (th)), .int (iI (((n : Nat) : Int))), .ref mnw, .ref mte, .ref mge, .ref mus, .int (iI (((p : Nat) : Int))), .int (iI (((st : Nat) : Int))), .int (iI (cc)), .int (iI (bc)), .ref mco, .ref mfl, .ref mba, .ref mdu, .long (lI (pot + mP (fun i => TE (19 * s + i)) (fun i => FL (48 * s + i)) sg (j + 1))), .long (lI (gr + mG (fun i => TE (19 * s + i)) (fun i => FL (48 * s + i)) sg j)), .long (lI (bk)), .int (iI (btw)), .int (iI (bhd))])), (mte, .inl (k4 0, 912, .inl (fun i9 => iI (TE i9)))), (mfl, .inl (k4 0, 2304, .inl (fun i9 => iI (FL i9)))), (mba, .inl (k4 1, 6, .inr (.inl (fun i9 => lI ((up (bookB BA (fun i => FL (48 * s + i)) sg j) (j) (((bookB BA (fun i => FL (48 * s + i)) sg j) j) + ((sg) * (FL ((48 * s + (j * 8 + 7))))))) i9))))), (q1, .inl (k4 0, 19, .inl (fun i9 => iI ((fun i => TE (19 * s + i)) i9))))] H locs := G
        refine z_aload_n E hl 1 rfl dX5_book_88 rfl ?_
        refine z_dup E dX5_book_89 rfl ?_
        refine kg_X5_136 E G 0 rfl rfl dX5_book_90 ?_
        refine z_iload_n E hl 3 rfl dX5_book_93 rfl ?_
        refine z_aload_n E hl 4 rfl dX5_book_94 rfl ?_
        refine z_iconst E dX5_book_95 ?_
        refine z_iald E G 4 rfl (1) rfl (by decide) (by decide) dX5_book_96 ?_
        refine z_aload_n E hl 1 rfl dX5_book_97 rfl ?_
        refine kg_X5_25 E G 0 rfl rfl dX5_book_98 ?_
        refine z_iload E hl 0 rfl dX5_book_101 ?_
        refine z_iconst E dX5_book_103 ?_
        refine z_iadd E dX5_book_104 ?_
        refine z_iald E G 2 rfl ((48 * s + (j * 8 + 3))) (by omega) (by omega) (by decide) dX5_book_105 ?_
        refine z_imul E dX5_book_106 ?_
        refine z_aload_n E hl 4 rfl dX5_book_107 rfl ?_
        refine z_iconst E dX5_book_108 ?_
        refine z_iald E G 4 rfl (2) rfl (by decide) (by decide) dX5_book_109 ?_
        refine z_aload_n E hl 1 rfl dX5_book_110 rfl ?_
        refine kg_X5_25 E G 0 rfl rfl dX5_book_111 ?_
        refine z_iload E hl 0 rfl dX5_book_114 ?_
        refine z_bipush E dX5_book_116 (by decide) ?_
        refine z_iadd E dX5_book_118 ?_
        refine z_iald E G 2 rfl ((48 * s + (j * 8 + 6))) (by omega) (by omega) (by decide) dX5_book_119 ?_
        refine z_imul E dX5_book_120 ?_
        refine z_isub E dX5_book_121 ?_
        refine z_imul E dX5_book_122 ?_
        refine z_i2l E dX5_book_123 ⟨by omega, by omega⟩ ?_
        refine z_ladd E dX5_book_124 ?_
        refine z_eql (y := gr + mG (fun i => TE (19 * s + i)) (fun i => FL (48 * s + i)) sg (j + 1)) (by rw [mG_s]; exact Int.add_assoc _ _ _) ?_
        refine kp_X5_136 E G 0 rfl (Nat.le_of_ble_eq_true rfl) dX5_book_125 (fun H locs G => ?_)
        have G : zG D AA ss.heap [(mo, .inr (5, [.int (iI (th)), .int (iI (((n : Nat) : Int))), .ref mnw, .ref mte, .ref mge, .ref mus, .int (iI (((p : Nat) : Int))), .int (iI (((st : Nat) : Int))), .int (iI (cc)), .int (iI (bc)), .ref mco, .ref mfl, .ref mba, .ref mdu, .long (lI (pot + mP (fun i => TE (19 * s + i)) (fun i => FL (48 * s + i)) sg (j + 1))), .long (lI (gr + mG (fun i => TE (19 * s + i)) (fun i => FL (48 * s + i)) sg (j + 1))), .long (lI (bk)), .int (iI (btw)), .int (iI (bhd))])), (mte, .inl (k4 0, 912, .inl (fun i9 => iI (TE i9)))), (mfl, .inl (k4 0, 2304, .inl (fun i9 => iI (FL i9)))), (mba, .inl (k4 1, 6, .inr (.inl (fun i9 => lI ((up (bookB BA (fun i => FL (48 * s + i)) sg j) (j) (((bookB BA (fun i => FL (48 * s + i)) sg j) j) + ((sg) * (FL ((48 * s + (j * 8 + 7))))))) i9))))), (q1, .inl (k4 0, 19, .inl (fun i9 => iI ((fun i => TE (19 * s + i)) i9))))] H locs := G
        refine z_iinc E [(4, .int (iI (((j : Nat) : Int) + 1))), (5, .int (iI ((8) * (((6) * (((s : Nat) : Int))) + (((j : Nat) : Int)))))), (0, .ref mo), (1, .int (iI (((s : Nat) : Int)))), (2, .int (iI (sg))), (3, .ref q1)] dX5_book_128 hl (k := 5) rfl (by decide) rfl (fun ls hl => ?_)
        refine z_goto (tgt := 9) E dX5_book_131 (by decide) ?_
        exact ih9_1 (j + 1) _ _ _ (by omega) (by omega) G (lv_sub hl [2, 3, 4, 5, 0] rfl)
  exact hp9_1 (n + 1) 0 _ _ _ (by omega) (by omega) ((by rw [mP_0, mG_0]; exact G)) (lv_sub hl [2, 3, 4, 1, 0] rfl)

