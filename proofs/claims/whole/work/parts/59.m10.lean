def q_c_X5_digest (k4 : Nat → ClassId) (mo mnw mte mge mus mco mfl mba mdu : Nat) (th : Int) (n p st : Nat) (cc bc pot gr bk btw bhd : Int) (NW GE US CO FL BA DU : Nat → Int) : Option Value → va_W → Prop := (fun (v9 : Option Value) (w9 : va_W) => v9 = some (.long (lI (digX n p st cc bc pot gr bk NW BA DU (sgM (fun _ => 0) GE US CO FL)))) ∧ w9 = [(mo, .inr (5, [.int (iI (0)), .int (iI (((n : Nat) : Int))), .ref mnw, .ref mte, .ref mge, .ref mus, .int (iI (((p : Nat) : Int))), .int (iI (((st : Nat) : Int))), .int (iI (cc)), .int (iI (bc)), .ref mco, .ref mfl, .ref mba, .ref mdu, .long (lI (pot)), .long (lI (gr)), .long (lI (bk)), .int (iI (btw)), .int (iI (bhd))])), (mnw, .inl (k4 0, 19, .inl (fun i9 => iI (NW i9)))), (mge, .inl (k4 0, 288, .inl (fun i9 => iI (GE i9)))), (mus, .inl (k4 0, 288, .inl (fun i9 => iI (US i9)))), (mco, .inl (k4 0, 48, .inl (fun i9 => iI (CO i9)))), (mfl, .inl (k4 0, 2304, .inl (fun i9 => iI (FL i9)))), (mba, .inl (k4 1, 6, .inr (.inl (fun i9 => lI (BA i9))))), (mdu, .inl (k4 1, 6, .inr (.inl (fun i9 => lI (DU i9)))))])
set_option maxHeartbeats 4000000 in
set_option maxRecDepth 100000 in
theorem c_X5_digest (l : Launch) (D : va_G) (k4 : Nat → ClassId) (mo mnw mte mge mus mco mfl mba mdu : Nat) (th : Int) (n p st : Nat) (cc bc pot gr bk btw bhd : Int) (NW GE US CO FL BA DU : Nat → Int) (hn : n ≤ 6) (hp48 : p ≤ 48) (hst : st ≤ 48) (hcc : rng cc) (hbc : 0 ≤ bc ∧ bc ≤ 20000) (ht : tOK NW) (hA : rowsOK n GE US) (hF : ∀ j, j < p → flOK (fun i => FL (48 * j + i)) ∧ 0 ≤ CO j ∧ CO j ≤ 20000) : zC l yX5_digest (zW yX5_digest cX5_digest 6 (some .long)) ({ frames := 0, cells := 0, slots := 0, locals := 0 } : Room) D k4 [.ref mo] [(mo, .inr (5, [.int (iI (th)), .int (iI (((n : Nat) : Int))), .ref mnw, .ref mte, .ref mge, .ref mus, .int (iI (((p : Nat) : Int))), .int (iI (((st : Nat) : Int))), .int (iI (cc)), .int (iI (bc)), .ref mco, .ref mfl, .ref mba, .ref mdu, .long (lI (pot)), .long (lI (gr)), .long (lI (bk)), .int (iI (btw)), .int (iI (bhd))])), (mnw, .inl (k4 0, 19, .inl (fun i9 => iI (NW i9)))), (mge, .inl (k4 0, 288, .inl (fun i9 => iI (GE i9)))), (mus, .inl (k4 0, 288, .inl (fun i9 => iI (US i9)))), (mco, .inl (k4 0, 48, .inl (fun i9 => iI (CO i9)))), (mfl, .inl (k4 0, 2304, .inl (fun i9 => iI (FL i9)))), (mba, .inl (k4 1, 6, .inr (.inl (fun i9 => lI (BA i9))))), (mdu, .inl (k4 1, 6, .inr (.inl (fun i9 => lI (DU i9)))))] (0) (0) (q_c_X5_digest k4 mo mnw mte mge mus mco mfl mba mdu th n p st cc bc pot gr bk btw bhd NW GE US CO FL BA DU) := by
  refine zC_of (cc := cX5_digest) (by decide) (Nat.le_of_ble_eq_true rfl) (fun pp ee ss mm bl me co AA H locs ls E hr hlocks hin G hl => ?_)
  have hl : lv_has ls 6 [(0, .ref mo)] := hl
  have z0 := ht.1
  refine z_aload_n E hl 0 rfl dX5_digest_0 rfl ?_
  refine z_iconst E dX5_digest_1 ?_
  refine kp_X5_35 E G 0 rfl (Nat.le_of_ble_eq_true rfl) dX5_digest_2 (fun H locs G => ?_)
  have G : zG D AA ss.heap [(mo, .inr (5, [.int (iI (0)), .int (iI (((n : Nat) : Int))), .ref mnw, .ref mte, .ref mge, .ref mus, .int (iI (((p : Nat) : Int))), .int (iI (((st : Nat) : Int))), .int (iI (cc)), .int (iI (bc)), .ref mco, .ref mfl, .ref mba, .ref mdu, .long (lI (pot)), .long (lI (gr)), .long (lI (bk)), .int (iI (btw)), .int (iI (bhd))])), (mnw, .inl (k4 0, 19, .inl (fun i9 => iI (NW i9)))), (mge, .inl (k4 0, 288, .inl (fun i9 => iI (GE i9)))), (mus, .inl (k4 0, 288, .inl (fun i9 => iI (US i9)))), (mco, .inl (k4 0, 48, .inl (fun i9 => iI (CO i9)))), (mfl, .inl (k4 0, 2304, .inl (fun i9 => iI (FL i9)))), (mba, .inl (k4 1, 6, .inr (.inl (fun i9 => lI (BA i9))))), (mdu, .inl (k4 1, 6, .inr (.inl (fun i9 => lI (DU i9)))))] H locs := G
  refine z_ldc2 E (n := (6169)) zw_659 (by decide +kernel) dX5_digest_5 ?_
  refine z_aload_n E hl 0 rfl dX5_digest_8 rfl ?_
  refine kg_X5_39 E G 0 rfl rfl dX5_digest_9 ?_
  refine z_i2l E dX5_digest_12 ⟨by omega, by omega⟩ ?_
  refine z_ladd E dX5_digest_13 ?_
  refine z_eql (y := 199 * 31 + ((n : Nat) : Int)) (by omega) ?_
  refine z_ldc2 E (n := (31)) zw_660 (by decide +kernel) dX5_digest_14 ?_
  refine z_lmul E dX5_digest_17 ?_
  refine z_aload_n E hl 0 rfl dX5_digest_18 rfl ?_
  refine kg_X5_48 E G 0 rfl rfl dX5_digest_19 ?_
  refine z_i2l E dX5_digest_22 ⟨by omega, by omega⟩ ?_
  refine z_ladd E dX5_digest_23 ?_
  refine z_ldc2 E (n := (31)) zw_660 (by decide +kernel) dX5_digest_24 ?_
  refine z_lmul E dX5_digest_27 ?_
  refine z_aload_n E hl 0 rfl dX5_digest_28 rfl ?_
  refine kg_X5_69 E G 0 rfl rfl dX5_digest_29 ?_
  refine z_i2l E dX5_digest_32 ⟨by omega, by omega⟩ ?_
  refine z_ladd E dX5_digest_33 ?_
  refine z_ldc2 E (n := (31)) zw_660 (by decide +kernel) dX5_digest_34 ?_
  refine z_lmul E dX5_digest_37 ?_
  refine z_aload_n E hl 0 rfl dX5_digest_38 rfl ?_
  refine kg_X5_9 E G 0 rfl rfl dX5_digest_39 ?_
  refine z_iconst E dX5_digest_42 ?_
  refine z_iald E G 1 rfl (0) rfl (by decide) (by decide) dX5_digest_43 ?_
  refine z_i2l E dX5_digest_44 ⟨by omega, by omega⟩ ?_
  refine z_ladd E dX5_digest_45 ?_
  refine z_lstore_n E [(1, .long (lI (((((((199 * 31 + ((n : Nat) : Int)) * (31)) + (((p : Nat) : Int))) * (31)) + (bc)) * (31)) + (NW 0)))), (0, .ref mo)] dX5_digest_46 rfl hl (by decide) rfl (fun ls hl => ?_)
  refine z_iconst E dX5_digest_47 ?_
  refine z_istore_n E [(3, .int (iI (0))), (1, .long (lI (((((((199 * 31 + ((n : Nat) : Int)) * (31)) + (((p : Nat) : Int))) * (31)) + (bc)) * (31)) + (NW 0)))), (0, .ref mo)] dX5_digest_48 rfl hl (by decide) rfl (fun ls hl => ?_)
  have hp49_1 : ∀ (n9 : Nat) (j : Nat) (H : Heap) (locs : List Loc) (ls : Array Slot), (n - j < n9) → (j ≤ n) → zG D AA ss.heap [(mo, .inr (5, [.int (iI (0)), .int (iI (((n : Nat) : Int))), .ref mnw, .ref mte, .ref mge, .ref mus, .int (iI (((p : Nat) : Int))), .int (iI (((st : Nat) : Int))), .int (iI (cc)), .int (iI (bc)), .ref mco, .ref mfl, .ref mba, .ref mdu, .long (lI (pot)), .long (lI (gr)), .long (lI (bk)), .int (iI (btw)), .int (iI (bhd))])), (mnw, .inl (k4 0, 19, .inl (fun i9 => iI (NW i9)))), (mge, .inl (k4 0, 288, .inl (fun i9 => iI (GE i9)))), (mus, .inl (k4 0, 288, .inl (fun i9 => iI (US i9)))), (mco, .inl (k4 0, 48, .inl (fun i9 => iI (CO i9)))), (mfl, .inl (k4 0, 2304, .inl (fun i9 => iI (FL i9)))), (mba, .inl (k4 1, 6, .inr (.inl (fun i9 => lI (BA i9))))), (mdu, .inl (k4 1, 6, .inr (.inl (fun i9 => lI (DU i9)))))] H locs → lv_has ls 6 [(0, .ref mo), (1, .long (lI (digM NW BA DU ((((199 * 31 + ((n : Nat) : Int)) * 31 + ((p : Nat) : Int)) * 31 + bc) * 31 + NW 0) j))), (3, .int (iI (((j : Nat) : Int))))] → W pp l ee ({ frames := 0, cells := 0, slots := 0, locals := 0 } : Room) ss mm ([.ref mo] : List Value).toArray bl me co H locs (0) (0) (MQ bl (zQ D [(mo, .inr (5, [.int (iI (th)), .int (iI (((n : Nat) : Int))), .ref mnw, .ref mte, .ref mge, .ref mus, .int (iI (((p : Nat) : Int))), .int (iI (((st : Nat) : Int))), .int (iI (cc)), .int (iI (bc)), .ref mco, .ref mfl, .ref mba, .ref mdu, .long (lI (pot)), .long (lI (gr)), .long (lI (bk)), .int (iI (btw)), .int (iI (bhd))])), (mnw, .inl (k4 0, 19, .inl (fun i9 => iI (NW i9)))), (mge, .inl (k4 0, 288, .inl (fun i9 => iI (GE i9)))), (mus, .inl (k4 0, 288, .inl (fun i9 => iI (US i9)))), (mco, .inl (k4 0, 48, .inl (fun i9 => iI (CO i9)))), (mfl, .inl (k4 0, 2304, .inl (fun i9 => iI (FL i9)))), (mba, .inl (k4 1, 6, .inr (.inl (fun i9 => lI (BA i9))))), (mdu, .inl (k4 1, 6, .inr (.inl (fun i9 => lI (DU i9)))))] AA (q_c_X5_digest k4 mo mnw mte mge mus mco mfl mba mdu th n p st cc bc pot gr bk btw bhd NW GE US CO FL BA DU)) ([.ref mo] : List Value).toArray ss (0) (0) AA) (F0 mm 49 ls []) := by
    intro n9
    induction n9 with
    | zero => intro j H locs ls hn9 hj G hl; exact absurd hn9 (by omega)
    | succ n9 ih =>
      intro j H locs ls hn9 hj G hl
      have ih49_1 := @ih
      refine z_iload_n E hl 2 rfl dX5_digest_49 rfl ?_
      refine z_aload_n E hl 0 rfl dX5_digest_50 rfl ?_
      refine kg_X5_39 E G 0 rfl rfl dX5_digest_51 ?_
      refine z_icmp_ge (tgt := 117) E dX5_digest_54 (by decide) ⟨by omega, by omega⟩ ⟨by omega, by omega⟩ (fun c_54 => ?_) (fun c_54 => ?_)
      · skip
        have hjn : j = n := by omega
        rw [hjn] at hl
        have hl : lv_has ls 6 [(0, .ref mo), (1, .long (lI (digM NW BA DU ((((199 * 31 + ((n : Nat) : Int)) * 31 + ((p : Nat) : Int)) * 31 + bc) * 31 + NW 0) n))), (3, .int (iI (((n : Nat) : Int))))] := hl
        refine z_lload_n E hl 1 rfl dX5_digest_117 rfl ?_
        refine z_ldc2 E (n := (31)) zw_660 (by decide +kernel) dX5_digest_118 ?_
        refine z_lmul E dX5_digest_121 ?_
        refine z_aload_n E hl 0 rfl dX5_digest_122 rfl ?_
        refine kg_X5_132 E G 0 rfl rfl dX5_digest_123 ?_
        refine z_ladd E dX5_digest_126 ?_
        refine z_ldc2 E (n := (31)) zw_660 (by decide +kernel) dX5_digest_127 ?_
        refine z_lmul E dX5_digest_130 ?_
        refine z_aload_n E hl 0 rfl dX5_digest_131 rfl ?_
        refine kg_X5_136 E G 0 rfl rfl dX5_digest_132 ?_
        refine z_ladd E dX5_digest_135 ?_
        refine z_ldc2 E (n := (31)) zw_660 (by decide +kernel) dX5_digest_136 ?_
        refine z_lmul E dX5_digest_139 ?_
        refine z_aload_n E hl 0 rfl dX5_digest_140 rfl ?_
        refine kg_X5_171 E G 0 rfl rfl dX5_digest_141 ?_
        refine z_ladd E dX5_digest_144 ?_
        refine z_lstore_n E [(1, .long (lI (((((((digM NW BA DU ((((199 * 31 + ((n : Nat) : Int)) * 31 + ((p : Nat) : Int)) * 31 + bc) * 31 + NW 0) n) * (31)) + (pot)) * (31)) + (gr)) * (31)) + (bk)))), (0, .ref mo), (3, .int (iI (((n : Nat) : Int))))] dX5_digest_145 rfl hl (by decide) rfl (fun ls hl => ?_)
        refine z_iconst E dX5_digest_146 ?_
        refine z_istore_n E [(3, .int (iI (0))), (1, .long (lI (((((((digM NW BA DU ((((199 * 31 + ((n : Nat) : Int)) * 31 + ((p : Nat) : Int)) * 31 + bc) * 31 + NW 0) n) * (31)) + (pot)) * (31)) + (gr)) * (31)) + (bk)))), (0, .ref mo)] dX5_digest_147 rfl hl (by decide) rfl (fun ls hl => ?_)
        have hp148_2 : ∀ (n9 : Nat) (j : Nat) (H : Heap) (locs : List Loc) (ls : Array Slot), (p - j < n9) → (j ≤ p) → zG D AA ss.heap [(mo, .inr (5, [.int (iI (0)), .int (iI (((n : Nat) : Int))), .ref mnw, .ref mte, .ref mge, .ref mus, .int (iI (((p : Nat) : Int))), .int (iI (((st : Nat) : Int))), .int (iI (cc)), .int (iI (bc)), .ref mco, .ref mfl, .ref mba, .ref mdu, .long (lI (pot)), .long (lI (gr)), .long (lI (bk)), .int (iI (btw)), .int (iI (bhd))])), (mnw, .inl (k4 0, 19, .inl (fun i9 => iI (NW i9)))), (mge, .inl (k4 0, 288, .inl (fun i9 => iI (GE i9)))), (mus, .inl (k4 0, 288, .inl (fun i9 => iI (US i9)))), (mco, .inl (k4 0, 48, .inl (fun i9 => iI (CO i9)))), (mfl, .inl (k4 0, 2304, .inl (fun i9 => iI (FL i9)))), (mba, .inl (k4 1, 6, .inr (.inl (fun i9 => lI (BA i9))))), (mdu, .inl (k4 1, 6, .inr (.inl (fun i9 => lI (DU i9)))))] H locs → lv_has ls 6 [(0, .ref mo), (1, .long (lI (digS (sgM (fun _ => 0) GE US CO FL) n (((digM NW BA DU ((((199 * 31 + ((n : Nat) : Int)) * 31 + ((p : Nat) : Int)) * 31 + bc) * 31 + NW 0) n * 31 + pot) * 31 + gr) * 31 + bk) j))), (3, .int (iI (((j : Nat) : Int))))] → W pp l ee ({ frames := 0, cells := 0, slots := 0, locals := 0 } : Room) ss mm ([.ref mo] : List Value).toArray bl me co H locs (0) (0) (MQ bl (zQ D [(mo, .inr (5, [.int (iI (th)), .int (iI (((n : Nat) : Int))), .ref mnw, .ref mte, .ref mge, .ref mus, .int (iI (((p : Nat) : Int))), .int (iI (((st : Nat) : Int))), .int (iI (cc)), .int (iI (bc)), .ref mco, .ref mfl, .ref mba, .ref mdu, .long (lI (pot)), .long (lI (gr)), .long (lI (bk)), .int (iI (btw)), .int (iI (bhd))])), (mnw, .inl (k4 0, 19, .inl (fun i9 => iI (NW i9)))), (mge, .inl (k4 0, 288, .inl (fun i9 => iI (GE i9)))), (mus, .inl (k4 0, 288, .inl (fun i9 => iI (US i9)))), (mco, .inl (k4 0, 48, .inl (fun i9 => iI (CO i9)))), (mfl, .inl (k4 0, 2304, .inl (fun i9 => iI (FL i9)))), (mba, .inl (k4 1, 6, .inr (.inl (fun i9 => lI (BA i9))))), (mdu, .inl (k4 1, 6, .inr (.inl (fun i9 => lI (DU i9)))))] AA (q_c_X5_digest k4 mo mnw mte mge mus mco mfl mba mdu th n p st cc bc pot gr bk btw bhd NW GE US CO FL BA DU)) ([.ref mo] : List Value).toArray ss (0) (0) AA) (F0 mm 148 ls []) := by
          intro n9
          induction n9 with
          | zero => intro j H locs ls hn9 hjp G hl; exact absurd hn9 (by omega)
          | succ n9 ih =>
            intro j H locs ls hn9 hjp G hl
            have ih148_2 := @ih
            refine z_iload_n E hl 2 rfl dX5_digest_148 rfl ?_
            refine z_aload_n E hl 0 rfl dX5_digest_149 rfl ?_
            refine kg_X5_48 E G 0 rfl rfl dX5_digest_150 ?_
            refine z_icmp_ge (tgt := 274) E dX5_digest_153 (by decide) ⟨by omega, by omega⟩ ⟨by omega, by omega⟩ (fun c_153 => ?_) (fun c_153 => ?_)
            · skip
              have hjn : j = p := by omega
              rw [hjn] at hl
              have hl : lv_has ls 6 [(0, .ref mo), (1, .long (lI (digS (sgM (fun _ => 0) GE US CO FL) n (((digM NW BA DU ((((199 * 31 + ((n : Nat) : Int)) * 31 + ((p : Nat) : Int)) * 31 + bc) * 31 + NW 0) n * 31 + pot) * 31 + gr) * 31 + bk) p))), (3, .int (iI (((p : Nat) : Int))))] := hl
              refine z_lload_n E hl 1 rfl dX5_digest_274 rfl ?_
              refine z_ldc2 E (n := (31)) zw_660 (by decide +kernel) dX5_digest_275 ?_
              refine z_lmul E dX5_digest_278 ?_
              refine z_aload_n E hl 0 rfl dX5_digest_279 rfl ?_
              refine kg_X5_153 E G 0 rfl rfl dX5_digest_280 ?_
              refine z_i2l E dX5_digest_283 ⟨by omega, by omega⟩ ?_
              refine z_ladd E dX5_digest_284 ?_
              refine z_ldc2 E (n := (31)) zw_660 (by decide +kernel) dX5_digest_285 ?_
              refine z_lmul E dX5_digest_288 ?_
              refine z_aload_n E hl 0 rfl dX5_digest_289 rfl ?_
              refine kg_X5_156 E G 0 rfl rfl dX5_digest_290 ?_
              refine z_i2l E dX5_digest_293 hcc ?_
              refine z_ladd E dX5_digest_294 ?_
              refine z_eql (y := digX n p st cc bc pot gr bk NW BA DU (sgM (fun _ => 0) GE US CO FL)) rfl ?_
              exact z_lret (w' := [(mo, .inr (5, [.int (iI (0)), .int (iI (((n : Nat) : Int))), .ref mnw, .ref mte, .ref mge, .ref mus, .int (iI (((p : Nat) : Int))), .int (iI (((st : Nat) : Int))), .int (iI (cc)), .int (iI (bc)), .ref mco, .ref mfl, .ref mba, .ref mdu, .long (lI (pot)), .long (lI (gr)), .long (lI (bk)), .int (iI (btw)), .int (iI (bhd))])), (mnw, .inl (k4 0, 19, .inl (fun i9 => iI (NW i9)))), (mge, .inl (k4 0, 288, .inl (fun i9 => iI (GE i9)))), (mus, .inl (k4 0, 288, .inl (fun i9 => iI (US i9)))), (mco, .inl (k4 0, 48, .inl (fun i9 => iI (CO i9)))), (mfl, .inl (k4 0, 2304, .inl (fun i9 => iI (FL i9)))), (mba, .inl (k4 1, 6, .inr (.inl (fun i9 => lI (BA i9))))), (mdu, .inl (k4 1, 6, .inr (.inl (fun i9 => lI (DU i9)))))]) (v := digX n p st cc bc pot gr bk NW BA DU (sgM (fun _ => 0) GE US CO FL)) E hr hlocks G dX5_digest_295 (by omega) (by omega) (zx0 rfl) ⟨rfl, rfl⟩
            · skip
              have hFj := hF j (by omega)
              have hAj := hA j (by omega)
              refine z_lload_n E hl 1 rfl dX5_digest_156 rfl ?_
              refine z_ldc2 E (n := (31)) zw_660 (by decide +kernel) dX5_digest_157 ?_
              refine z_lmul E dX5_digest_160 ?_
              refine z_aload_n E hl 0 rfl dX5_digest_161 rfl ?_
              refine kg_X5_22 E G 0 rfl rfl dX5_digest_162 ?_
              refine z_iload_n E hl 2 rfl dX5_digest_165 rfl ?_
              refine z_iald E G 4 rfl (j) rfl (by omega) (by decide) dX5_digest_166 ?_
              refine z_i2l E dX5_digest_167 ⟨by omega, by omega⟩ ?_
              refine z_ladd E dX5_digest_168 ?_
              refine z_lstore_n E [(1, .long (lI (((digS (sgM (fun _ => 0) GE US CO FL) n (((digM NW BA DU ((((199 * 31 + ((n : Nat) : Int)) * 31 + ((p : Nat) : Int)) * 31 + bc) * 31 + NW 0) n * 31 + pot) * 31 + gr) * 31 + bk) j) * (31)) + (CO j)))), (0, .ref mo), (3, .int (iI (((j : Nat) : Int))))] dX5_digest_169 rfl hl (by decide) rfl (fun ls hl => ?_)
              refine z_iconst E dX5_digest_170 ?_
              refine z_istore E [(4, .int (iI (0))), (1, .long (lI (((digS (sgM (fun _ => 0) GE US CO FL) n (((digM NW BA DU ((((199 * 31 + ((n : Nat) : Int)) * 31 + ((p : Nat) : Int)) * 31 + bc) * 31 + NW 0) n * 31 + pot) * 31 + gr) * 31 + bk) j) * (31)) + (CO j)))), (0, .ref mo), (3, .int (iI (((j : Nat) : Int))))] dX5_digest_171 hl (by decide) rfl (fun ls hl => ?_)
              have hp173_3 : ∀ (n9 : Nat) (q : Nat) (H : Heap) (locs : List Loc) (ls : Array Slot), (n - q < n9) → (q ≤ n) → zG D AA ss.heap [(mo, .inr (5, [.int (iI (0)), .int (iI (((n : Nat) : Int))), .ref mnw, .ref mte, .ref mge, .ref mus, .int (iI (((p : Nat) : Int))), .int (iI (((st : Nat) : Int))), .int (iI (cc)), .int (iI (bc)), .ref mco, .ref mfl, .ref mba, .ref mdu, .long (lI (pot)), .long (lI (gr)), .long (lI (bk)), .int (iI (btw)), .int (iI (bhd))])), (mnw, .inl (k4 0, 19, .inl (fun i9 => iI (NW i9)))), (mge, .inl (k4 0, 288, .inl (fun i9 => iI (GE i9)))), (mus, .inl (k4 0, 288, .inl (fun i9 => iI (US i9)))), (mco, .inl (k4 0, 48, .inl (fun i9 => iI (CO i9)))), (mfl, .inl (k4 0, 2304, .inl (fun i9 => iI (FL i9)))), (mba, .inl (k4 1, 6, .inr (.inl (fun i9 => lI (BA i9))))), (mdu, .inl (k4 1, 6, .inr (.inl (fun i9 => lI (DU i9)))))] H locs → lv_has ls 6 [(0, .ref mo), (1, .long (lI (mixM ((sgM (fun _ => 0) GE US CO FL) j 1) ((sgM (fun _ => 0) GE US CO FL) j 2) ((sgM (fun _ => 0) GE US CO FL) j 3) (digS (sgM (fun _ => 0) GE US CO FL) n (((digM NW BA DU ((((199 * 31 + ((n : Nat) : Int)) * 31 + ((p : Nat) : Int)) * 31 + bc) * 31 + NW 0) n * 31 + pot) * 31 + gr) * 31 + bk) j * 31 + (sgM (fun _ => 0) GE US CO FL) j 4 0) q))), (3, .int (iI (((j : Nat) : Int)))), (4, .int (iI (((q : Nat) : Int))))] → W pp l ee ({ frames := 0, cells := 0, slots := 0, locals := 0 } : Room) ss mm ([.ref mo] : List Value).toArray bl me co H locs (0) (0) (MQ bl (zQ D [(mo, .inr (5, [.int (iI (th)), .int (iI (((n : Nat) : Int))), .ref mnw, .ref mte, .ref mge, .ref mus, .int (iI (((p : Nat) : Int))), .int (iI (((st : Nat) : Int))), .int (iI (cc)), .int (iI (bc)), .ref mco, .ref mfl, .ref mba, .ref mdu, .long (lI (pot)), .long (lI (gr)), .long (lI (bk)), .int (iI (btw)), .int (iI (bhd))])), (mnw, .inl (k4 0, 19, .inl (fun i9 => iI (NW i9)))), (mge, .inl (k4 0, 288, .inl (fun i9 => iI (GE i9)))), (mus, .inl (k4 0, 288, .inl (fun i9 => iI (US i9)))), (mco, .inl (k4 0, 48, .inl (fun i9 => iI (CO i9)))), (mfl, .inl (k4 0, 2304, .inl (fun i9 => iI (FL i9)))), (mba, .inl (k4 1, 6, .inr (.inl (fun i9 => lI (BA i9))))), (mdu, .inl (k4 1, 6, .inr (.inl (fun i9 => lI (DU i9)))))] AA (q_c_X5_digest k4 mo mnw mte mge mus mco mfl mba mdu th n p st cc bc pot gr bk btw bhd NW GE US CO FL BA DU)) ([.ref mo] : List Value).toArray ss (0) (0) AA) (F0 mm 173 ls []) := by
                intro n9
                induction n9 with
                | zero => intro q H locs ls hn9 hq G hl; exact absurd hn9 (by omega)
                | succ n9 ih =>
                  intro q H locs ls hn9 hq G hl
                  have ih173_3 := @ih
                  refine z_iload E hl 3 rfl dX5_digest_173 ?_
                  refine z_aload_n E hl 0 rfl dX5_digest_175 rfl ?_
                  refine kg_X5_39 E G 0 rfl rfl dX5_digest_176 ?_
                  refine z_icmp_ge (tgt := 268) E dX5_digest_179 (by decide) ⟨by omega, by omega⟩ ⟨by omega, by omega⟩ (fun c_179 => ?_) (fun c_179 => ?_)
                  · skip
                    have hqn : q = n := by omega
                    rw [hqn] at hl
                    have hl : lv_has ls 6 [(0, .ref mo), (1, .long (lI (mixM ((sgM (fun _ => 0) GE US CO FL) j 1) ((sgM (fun _ => 0) GE US CO FL) j 2) ((sgM (fun _ => 0) GE US CO FL) j 3) (digS (sgM (fun _ => 0) GE US CO FL) n (((digM NW BA DU ((((199 * 31 + ((n : Nat) : Int)) * 31 + ((p : Nat) : Int)) * 31 + bc) * 31 + NW 0) n * 31 + pot) * 31 + gr) * 31 + bk) j * 31 + (sgM (fun _ => 0) GE US CO FL) j 4 0) n))), (3, .int (iI (((j : Nat) : Int)))), (4, .int (iI (((n : Nat) : Int))))] := hl
                    refine z_iinc E [(3, .int (iI (((j : Nat) : Int) + 1))), (0, .ref mo), (1, .long (lI (mixM ((sgM (fun _ => 0) GE US CO FL) j 1) ((sgM (fun _ => 0) GE US CO FL) j 2) ((sgM (fun _ => 0) GE US CO FL) j 3) (digS (sgM (fun _ => 0) GE US CO FL) n (((digM NW BA DU ((((199 * 31 + ((n : Nat) : Int)) * 31 + ((p : Nat) : Int)) * 31 + bc) * 31 + NW 0) n * 31 + pot) * 31 + gr) * 31 + bk) j * 31 + (sgM (fun _ => 0) GE US CO FL) j 4 0) n))), (4, .int (iI (((n : Nat) : Int))))] dX5_digest_268 hl (k := 2) rfl (by decide) rfl (fun ls hl => ?_)
                    refine z_goto (tgt := 148) E dX5_digest_271 (by decide) ?_
                    exact ih148_2 (j + 1) _ _ _ (by omega) (by omega) G (lv_sub hl [1, 2, 0] rfl)
                  · skip
                    have g1 : 0 ≤ GE (48 * q + j) ∧ GE (48 * q + j) ≤ 5000 := hAj.1 q (by omega)
                    have g2 : 0 ≤ US (48 * q + j) ∧ US (48 * q + j) ≤ 5000 := hAj.2.1 q (by omega)
                    refine z_lload_n E hl 1 rfl dX5_digest_182 rfl ?_
                    refine z_ldc2 E (n := (31)) zw_660 (by decide +kernel) dX5_digest_183 ?_
                    refine z_lmul E dX5_digest_186 ?_
                    refine z_aload_n E hl 0 rfl dX5_digest_187 rfl ?_
                    refine kg_X5_16 E G 0 rfl rfl dX5_digest_188 ?_
                    refine z_bipush E dX5_digest_191 (by decide) ?_
                    refine z_iload E hl 3 rfl dX5_digest_193 ?_
                    refine z_imul E dX5_digest_195 ?_
                    refine z_iload_n E hl 2 rfl dX5_digest_196 rfl ?_
                    refine z_iadd E dX5_digest_197 ?_
                    refine z_iald E G 2 rfl (48 * q + j) (by omega) (by omega) (by decide) dX5_digest_198 ?_
                    refine z_i2l E dX5_digest_199 ⟨by omega, by omega⟩ ?_
                    refine z_ladd E dX5_digest_200 ?_
                    refine z_ldc2 E (n := (31)) zw_660 (by decide +kernel) dX5_digest_201 ?_
                    refine z_lmul E dX5_digest_204 ?_
                    refine z_aload_n E hl 0 rfl dX5_digest_205 rfl ?_
                    refine kg_X5_19 E G 0 rfl rfl dX5_digest_206 ?_
                    refine z_bipush E dX5_digest_209 (by decide) ?_
                    refine z_iload E hl 3 rfl dX5_digest_211 ?_
                    refine z_imul E dX5_digest_213 ?_
                    refine z_iload_n E hl 2 rfl dX5_digest_214 rfl ?_
                    refine z_iadd E dX5_digest_215 ?_
                    refine z_iald E G 3 rfl (48 * q + j) (by omega) (by omega) (by decide) dX5_digest_216 ?_
                    refine z_i2l E dX5_digest_217 ⟨by omega, by omega⟩ ?_
                    refine z_ladd E dX5_digest_218 ?_
                    refine z_lstore_n E [(1, .long (lI (((((mixM ((sgM (fun _ => 0) GE US CO FL) j 1) ((sgM (fun _ => 0) GE US CO FL) j 2) ((sgM (fun _ => 0) GE US CO FL) j 3) (digS (sgM (fun _ => 0) GE US CO FL) n (((digM NW BA DU ((((199 * 31 + ((n : Nat) : Int)) * 31 + ((p : Nat) : Int)) * 31 + bc) * 31 + NW 0) n * 31 + pot) * 31 + gr) * 31 + bk) j * 31 + (sgM (fun _ => 0) GE US CO FL) j 4 0) q) * (31)) + (GE (48 * q + j))) * (31)) + (US (48 * q + j))))), (0, .ref mo), (3, .int (iI (((j : Nat) : Int)))), (4, .int (iI (((q : Nat) : Int))))] dX5_digest_219 rfl hl (by decide) rfl (fun ls hl => ?_)
                    refine z_iconst E dX5_digest_220 ?_
                    refine z_istore E [(5, .int (iI (0))), (1, .long (lI (((((mixM ((sgM (fun _ => 0) GE US CO FL) j 1) ((sgM (fun _ => 0) GE US CO FL) j 2) ((sgM (fun _ => 0) GE US CO FL) j 3) (digS (sgM (fun _ => 0) GE US CO FL) n (((digM NW BA DU ((((199 * 31 + ((n : Nat) : Int)) * 31 + ((p : Nat) : Int)) * 31 + bc) * 31 + NW 0) n * 31 + pot) * 31 + gr) * 31 + bk) j * 31 + (sgM (fun _ => 0) GE US CO FL) j 4 0) q) * (31)) + (GE (48 * q + j))) * (31)) + (US (48 * q + j))))), (0, .ref mo), (3, .int (iI (((j : Nat) : Int)))), (4, .int (iI (((q : Nat) : Int))))] dX5_digest_221 hl (by decide) rfl (fun ls hl => ?_)
                    have hp223_4 : ∀ (n9 : Nat) (w : Nat) (H : Heap) (locs : List Loc) (ls : Array Slot), (8 - w < n9) → (w ≤ 8) → zG D AA ss.heap [(mo, .inr (5, [.int (iI (0)), .int (iI (((n : Nat) : Int))), .ref mnw, .ref mte, .ref mge, .ref mus, .int (iI (((p : Nat) : Int))), .int (iI (((st : Nat) : Int))), .int (iI (cc)), .int (iI (bc)), .ref mco, .ref mfl, .ref mba, .ref mdu, .long (lI (pot)), .long (lI (gr)), .long (lI (bk)), .int (iI (btw)), .int (iI (bhd))])), (mnw, .inl (k4 0, 19, .inl (fun i9 => iI (NW i9)))), (mge, .inl (k4 0, 288, .inl (fun i9 => iI (GE i9)))), (mus, .inl (k4 0, 288, .inl (fun i9 => iI (US i9)))), (mco, .inl (k4 0, 48, .inl (fun i9 => iI (CO i9)))), (mfl, .inl (k4 0, 2304, .inl (fun i9 => iI (FL i9)))), (mba, .inl (k4 1, 6, .inr (.inl (fun i9 => lI (BA i9))))), (mdu, .inl (k4 1, 6, .inr (.inl (fun i9 => lI (DU i9)))))] H locs → lv_has ls 6 [(0, .ref mo), (1, .long (lI (mixF ((sgM (fun _ => 0) GE US CO FL) j 3) q ((mixM ((sgM (fun _ => 0) GE US CO FL) j 1) ((sgM (fun _ => 0) GE US CO FL) j 2) ((sgM (fun _ => 0) GE US CO FL) j 3) (digS (sgM (fun _ => 0) GE US CO FL) n (((digM NW BA DU ((((199 * 31 + ((n : Nat) : Int)) * 31 + ((p : Nat) : Int)) * 31 + bc) * 31 + NW 0) n * 31 + pot) * 31 + gr) * 31 + bk) j * 31 + (sgM (fun _ => 0) GE US CO FL) j 4 0) q * 31 + (sgM (fun _ => 0) GE US CO FL) j 1 q) * 31 + (sgM (fun _ => 0) GE US CO FL) j 2 q) w))), (3, .int (iI (((j : Nat) : Int)))), (4, .int (iI (((q : Nat) : Int)))), (5, .int (iI (((w : Nat) : Int))))] → W pp l ee ({ frames := 0, cells := 0, slots := 0, locals := 0 } : Room) ss mm ([.ref mo] : List Value).toArray bl me co H locs (0) (0) (MQ bl (zQ D [(mo, .inr (5, [.int (iI (th)), .int (iI (((n : Nat) : Int))), .ref mnw, .ref mte, .ref mge, .ref mus, .int (iI (((p : Nat) : Int))), .int (iI (((st : Nat) : Int))), .int (iI (cc)), .int (iI (bc)), .ref mco, .ref mfl, .ref mba, .ref mdu, .long (lI (pot)), .long (lI (gr)), .long (lI (bk)), .int (iI (btw)), .int (iI (bhd))])), (mnw, .inl (k4 0, 19, .inl (fun i9 => iI (NW i9)))), (mge, .inl (k4 0, 288, .inl (fun i9 => iI (GE i9)))), (mus, .inl (k4 0, 288, .inl (fun i9 => iI (US i9)))), (mco, .inl (k4 0, 48, .inl (fun i9 => iI (CO i9)))), (mfl, .inl (k4 0, 2304, .inl (fun i9 => iI (FL i9)))), (mba, .inl (k4 1, 6, .inr (.inl (fun i9 => lI (BA i9))))), (mdu, .inl (k4 1, 6, .inr (.inl (fun i9 => lI (DU i9)))))] AA (q_c_X5_digest k4 mo mnw mte mge mus mco mfl mba mdu th n p st cc bc pot gr bk btw bhd NW GE US CO FL BA DU)) ([.ref mo] : List Value).toArray ss (0) (0) AA) (F0 mm 223 ls []) := by
                      intro n9
                      induction n9 with
                      | zero => intro w H locs ls hn9 hw G hl; exact absurd hn9 (by omega)
                      | succ n9 ih =>
                        intro w H locs ls hn9 hw G hl
                        have ih223_4 := @ih
                        refine z_iload E hl 4 rfl dX5_digest_223 ?_
                        refine z_bipush E dX5_digest_225 (by decide) ?_
                        refine z_icmp_ge (tgt := 262) E dX5_digest_227 (by decide) ⟨by omega, by omega⟩ (by decide) (fun c_227 => ?_) (fun c_227 => ?_)
                        · skip
                          have hw8 : w = 8 := by omega
                          rw [hw8] at hl
                          have hl : lv_has ls 6 [(0, .ref mo), (1, .long (lI (mixF ((sgM (fun _ => 0) GE US CO FL) j 3) q ((mixM ((sgM (fun _ => 0) GE US CO FL) j 1) ((sgM (fun _ => 0) GE US CO FL) j 2) ((sgM (fun _ => 0) GE US CO FL) j 3) (digS (sgM (fun _ => 0) GE US CO FL) n (((digM NW BA DU ((((199 * 31 + ((n : Nat) : Int)) * 31 + ((p : Nat) : Int)) * 31 + bc) * 31 + NW 0) n * 31 + pot) * 31 + gr) * 31 + bk) j * 31 + (sgM (fun _ => 0) GE US CO FL) j 4 0) q * 31 + (sgM (fun _ => 0) GE US CO FL) j 1 q) * 31 + (sgM (fun _ => 0) GE US CO FL) j 2 q) 8))), (3, .int (iI (((j : Nat) : Int)))), (4, .int (iI (((q : Nat) : Int)))), (5, .int (iI (((8 : Nat) : Int))))] := hl
                          refine z_iinc E [(4, .int (iI (((q : Nat) : Int) + 1))), (0, .ref mo), (1, .long (lI (mixF ((sgM (fun _ => 0) GE US CO FL) j 3) q ((mixM ((sgM (fun _ => 0) GE US CO FL) j 1) ((sgM (fun _ => 0) GE US CO FL) j 2) ((sgM (fun _ => 0) GE US CO FL) j 3) (digS (sgM (fun _ => 0) GE US CO FL) n (((digM NW BA DU ((((199 * 31 + ((n : Nat) : Int)) * 31 + ((p : Nat) : Int)) * 31 + bc) * 31 + NW 0) n * 31 + pot) * 31 + gr) * 31 + bk) j * 31 + (sgM (fun _ => 0) GE US CO FL) j 4 0) q * 31 + (sgM (fun _ => 0) GE US CO FL) j 1 q) * 31 + (sgM (fun _ => 0) GE US CO FL) j 2 q) 8))), (3, .int (iI (((j : Nat) : Int)))), (5, .int (iI (((8 : Nat) : Int))))] dX5_digest_262 hl (k := 3) rfl (by decide) rfl (fun ls hl => ?_)
                          refine z_goto (tgt := 173) E dX5_digest_265 (by decide) ?_
                          exact ih173_3 (q + 1) _ _ _ (by omega) (by omega) G (lv_sub hl [1, 2, 3, 0] rfl)
                        · skip
                          have g3 : -10000000 ≤ FL (48 * j + (q * 8 + w)) ∧ FL (48 * j + (q * 8 + w)) ≤ 10000000 := fl_b hFj.1 (by omega) (by omega)
                          refine z_lload_n E hl 1 rfl dX5_digest_230 rfl ?_
                          refine z_ldc2 E (n := (31)) zw_660 (by decide +kernel) dX5_digest_231 ?_
                          refine z_lmul E dX5_digest_234 ?_
                          refine z_aload_n E hl 0 rfl dX5_digest_235 rfl ?_
                          refine kg_X5_25 E G 0 rfl rfl dX5_digest_236 ?_
                          refine z_bipush E dX5_digest_239 (by decide) ?_
                          refine z_bipush E dX5_digest_241 (by decide) ?_
                          refine z_iload_n E hl 2 rfl dX5_digest_243 rfl ?_
                          refine z_imul E dX5_digest_244 ?_
                          refine z_iload E hl 3 rfl dX5_digest_245 ?_
                          refine z_iadd E dX5_digest_247 ?_
                          refine z_imul E dX5_digest_248 ?_
                          refine z_iload E hl 4 rfl dX5_digest_249 ?_
                          refine z_iadd E dX5_digest_251 ?_
                          refine z_iald E G 5 rfl (48 * j + (q * 8 + w)) (by omega) (by omega) (by decide) dX5_digest_252 ?_
                          refine z_i2l E dX5_digest_253 ⟨by omega, by omega⟩ ?_
                          refine z_ladd E dX5_digest_254 ?_
                          refine z_lstore_n E [(1, .long (lI (((mixF ((sgM (fun _ => 0) GE US CO FL) j 3) q ((mixM ((sgM (fun _ => 0) GE US CO FL) j 1) ((sgM (fun _ => 0) GE US CO FL) j 2) ((sgM (fun _ => 0) GE US CO FL) j 3) (digS (sgM (fun _ => 0) GE US CO FL) n (((digM NW BA DU ((((199 * 31 + ((n : Nat) : Int)) * 31 + ((p : Nat) : Int)) * 31 + bc) * 31 + NW 0) n * 31 + pot) * 31 + gr) * 31 + bk) j * 31 + (sgM (fun _ => 0) GE US CO FL) j 4 0) q * 31 + (sgM (fun _ => 0) GE US CO FL) j 1 q) * 31 + (sgM (fun _ => 0) GE US CO FL) j 2 q) w) * (31)) + (FL (48 * j + (q * 8 + w)))))), (0, .ref mo), (3, .int (iI (((j : Nat) : Int)))), (4, .int (iI (((q : Nat) : Int)))), (5, .int (iI (((w : Nat) : Int))))] dX5_digest_255 rfl hl (by decide) rfl (fun ls hl => ?_)
                          refine z_iinc E [(5, .int (iI (((w : Nat) : Int) + 1))), (1, .long (lI (((mixF ((sgM (fun _ => 0) GE US CO FL) j 3) q ((mixM ((sgM (fun _ => 0) GE US CO FL) j 1) ((sgM (fun _ => 0) GE US CO FL) j 2) ((sgM (fun _ => 0) GE US CO FL) j 3) (digS (sgM (fun _ => 0) GE US CO FL) n (((digM NW BA DU ((((199 * 31 + ((n : Nat) : Int)) * 31 + ((p : Nat) : Int)) * 31 + bc) * 31 + NW 0) n * 31 + pot) * 31 + gr) * 31 + bk) j * 31 + (sgM (fun _ => 0) GE US CO FL) j 4 0) q * 31 + (sgM (fun _ => 0) GE US CO FL) j 1 q) * 31 + (sgM (fun _ => 0) GE US CO FL) j 2 q) w) * (31)) + (FL (48 * j + (q * 8 + w)))))), (0, .ref mo), (3, .int (iI (((j : Nat) : Int)))), (4, .int (iI (((q : Nat) : Int))))] dX5_digest_256 hl (k := 4) rfl (by decide) rfl (fun ls hl => ?_)
                          refine z_goto (tgt := 223) E dX5_digest_259 (by decide) ?_
                          exact ih223_4 (w + 1) _ _ _ (by omega) (by omega) G (lv_sub hl [2, 1, 3, 4, 0] rfl)
                    exact hp223_4 9 0 _ _ _ (by decide) (by decide) G (lv_sub hl [2, 1, 3, 4, 0] rfl)
              exact hp173_3 (n + 1) 0 _ _ _ (by omega) (by omega) G (lv_sub hl [2, 1, 3, 0] rfl)
        exact hp148_2 (p + 1) 0 _ _ _ (by omega) (by omega) G (lv_sub hl [2, 1, 0] rfl)
      · skip
        have b1 := tOK_sh ht j (by omega)
        have b2 := tOK_rk ht j (by omega)
        have b1 : 0 ≤ NW (7 + j) ∧ NW (7 + j) ≤ 100 := b1
        have b2 : 0 ≤ NW (13 + j) ∧ NW (13 + j) ≤ 99 := b2
        refine z_lload_n E hl 1 rfl dX5_digest_57 rfl ?_
        refine z_ldc2 E (n := (31)) zw_660 (by decide +kernel) dX5_digest_58 ?_
        refine z_lmul E dX5_digest_61 ?_
        refine z_aload_n E hl 0 rfl dX5_digest_62 rfl ?_
        refine kg_X5_9 E G 0 rfl rfl dX5_digest_63 ?_
        refine z_bipush E dX5_digest_66 (by decide) ?_
        refine z_iload_n E hl 2 rfl dX5_digest_68 rfl ?_
        refine z_iadd E dX5_digest_69 ?_
        refine z_iald E G 1 rfl (7 + j) (by omega) (by omega) (by decide) dX5_digest_70 ?_
        refine z_i2l E dX5_digest_71 ⟨by omega, by omega⟩ ?_
        refine z_ladd E dX5_digest_72 ?_
        refine z_ldc2 E (n := (31)) zw_660 (by decide +kernel) dX5_digest_73 ?_
        refine z_lmul E dX5_digest_76 ?_
        refine z_aload_n E hl 0 rfl dX5_digest_77 rfl ?_
        refine kg_X5_9 E G 0 rfl rfl dX5_digest_78 ?_
        refine z_bipush E dX5_digest_81 (by decide) ?_
        refine z_iload_n E hl 2 rfl dX5_digest_83 rfl ?_
        refine z_iadd E dX5_digest_84 ?_
        refine z_iald E G 1 rfl (13 + j) (by omega) (by omega) (by decide) dX5_digest_85 ?_
        refine z_i2l E dX5_digest_86 ⟨by omega, by omega⟩ ?_
        refine z_ladd E dX5_digest_87 ?_
        refine z_ldc2 E (n := (31)) zw_660 (by decide +kernel) dX5_digest_88 ?_
        refine z_lmul E dX5_digest_91 ?_
        refine z_aload_n E hl 0 rfl dX5_digest_92 rfl ?_
        refine kg_X5_28 E G 0 rfl rfl dX5_digest_93 ?_
        refine z_iload_n E hl 2 rfl dX5_digest_96 rfl ?_
        refine z_lald E G 6 rfl (j) rfl (by omega) (by decide) dX5_digest_97 ?_
        refine z_ladd E dX5_digest_98 ?_
        refine z_ldc2 E (n := (31)) zw_660 (by decide +kernel) dX5_digest_99 ?_
        refine z_lmul E dX5_digest_102 ?_
        refine z_aload_n E hl 0 rfl dX5_digest_103 rfl ?_
        refine kg_X5_32 E G 0 rfl rfl dX5_digest_104 ?_
        refine z_iload_n E hl 2 rfl dX5_digest_107 rfl ?_
        refine z_lald E G 7 rfl (j) rfl (by omega) (by decide) dX5_digest_108 ?_
        refine z_ladd E dX5_digest_109 ?_
        refine z_lstore_n E [(1, .long (lI (((((((((digM NW BA DU ((((199 * 31 + ((n : Nat) : Int)) * 31 + ((p : Nat) : Int)) * 31 + bc) * 31 + NW 0) j) * (31)) + (NW (7 + j))) * (31)) + (NW (13 + j))) * (31)) + (BA j)) * (31)) + (DU j)))), (0, .ref mo), (3, .int (iI (((j : Nat) : Int))))] dX5_digest_110 rfl hl (by decide) rfl (fun ls hl => ?_)
        refine z_iinc E [(3, .int (iI (((j : Nat) : Int) + 1))), (1, .long (lI (((((((((digM NW BA DU ((((199 * 31 + ((n : Nat) : Int)) * 31 + ((p : Nat) : Int)) * 31 + bc) * 31 + NW 0) j) * (31)) + (NW (7 + j))) * (31)) + (NW (13 + j))) * (31)) + (BA j)) * (31)) + (DU j)))), (0, .ref mo)] dX5_digest_111 hl (k := 2) rfl (by decide) rfl (fun ls hl => ?_)
        refine z_goto (tgt := 49) E dX5_digest_114 (by decide) ?_
        exact ih49_1 (j + 1) _ _ _ (by omega) (by omega) G (lv_sub hl [2, 1, 0] rfl)
  exact hp49_1 (n + 1) 0 _ _ _ (by omega) (by omega) G (lv_sub hl [2, 1, 0] rfl)

def q_c_X5_init (k4 : Nat → ClassId) (mo : Nat) : Option Value → va_W → Prop := (fun (v9 : Option Value) (w9 : va_W) => ∃ (mnw mte mge mus mco mfl mba mdu : Nat), v9 = none ∧ w9 = [(mo, .inr (5, [.int (iI (0)), .int (iI (0)), .ref mnw, .ref mte, .ref mge, .ref mus, .int (iI (0)), .int (iI (0)), .int (iI (0)), .int (iI (0)), .ref mco, .ref mfl, .ref mba, .ref mdu, .long (lI (0)), .long (lI (0)), .long (lI (0)), .int (iI (0)), .int (iI (0))])), (mnw, .inl (k4 0, 19, .inl (fun i9 => iI (t00 i9)))), (mte, .inl (k4 0, 912, .inl (fun i9 => iI ((fun _ => 0) i9)))), (mge, .inl (k4 0, 288, .inl (fun i9 => iI ((fun _ => 0) i9)))), (mus, .inl (k4 0, 288, .inl (fun i9 => iI ((fun _ => 0) i9)))), (mco, .inl (k4 0, 48, .inl (fun i9 => iI ((fun _ => 0) i9)))), (mfl, .inl (k4 0, 2304, .inl (fun i9 => iI ((fun _ => 0) i9)))), (mba, .inl (k4 1, 6, .inr (.inl (fun i9 => lI ((fun _ => 0) i9))))), (mdu, .inl (k4 1, 6, .inr (.inl (fun i9 => lI ((fun _ => 0) i9)))))])
set_option maxHeartbeats 4000000 in
set_option maxRecDepth 100000 in
theorem c_X5_init (l : Launch) (D : va_G) (k4 : Nat → ClassId) (mo : Nat)  : zC l yX5_init (zW yX5_init cX5_init 1 none) ({ frames := 1, cells := 8, slots := 3871, locals := 12 } : Room) D k4 [.ref mo] [(mo, .inr (5, [.int (iI (0)), .int (iI (0)), .null, .null, .null, .null, .int (iI (0)), .int (iI (0)), .int (iI (0)), .int (iI (0)), .null, .null, .null, .null, .long (lI (0)), .long (lI (0)), .long (lI (0)), .int (iI (0)), .int (iI (0))]))] (8) (3871) (q_c_X5_init k4 mo) := by
  refine zC_of (cc := cX5_init) (by decide) (Nat.le_of_ble_eq_true rfl) (fun pp ee ss mm bl me co AA H locs ls E hr hlocks hin G hl => ?_)
  have hl : lv_has ls 1 [(0, .ref mo)] := hl
  refine z_aload_n E hl 0 rfl dX5_init_0 rfl ?_
  refine W.objInit E.1 E.2.1 E.2.2.2.1 (E.w zw_63) (E.w zw_11) (E.w zw_12) rfl (hl.1.trans E.2.2.1.symm) rfl dX5_init_1 (Nat.le_of_ble_eq_true rfl) (Nat.le_of_ble_eq_true rfl) ?_
  refine W.eq (g2 := F0 mm 4 ls []) rfl ?_
  refine z_aload_n E hl 0 rfl dX5_init_4 rfl ?_
  refine z_bipush E dX5_init_5 (by decide) ?_
  refine z_newa_int E G (n := 19) rfl zw_31 (by first | exact Nat.le_of_ble_eq_true rfl | omega | (show _ ≤ (8); omega)) (by first | exact Nat.le_of_ble_eq_true rfl | omega | (show _ ≤ (3871); omega)) (by decide) dX5_init_7 (fun mnw H G => ?_)
  have G : zG D AA ss.heap [(mo, .inr (5, [.int (iI (0)), .int (iI (0)), .null, .null, .null, .null, .int (iI (0)), .int (iI (0)), .int (iI (0)), .int (iI (0)), .null, .null, .null, .null, .long (lI (0)), .long (lI (0)), .long (lI (0)), .int (iI (0)), .int (iI (0))])), (mnw, .inl (k4 0, 19, .inl (fun i9 => iI ((fun _ => 0) i9))))] H locs := G
  refine kp_X5_9 E hin G 0 rfl (Nat.le_of_ble_eq_true rfl) dX5_init_9 (fun H locs G => ?_)
  have G : zG D AA ss.heap [(mo, .inr (5, [.int (iI (0)), .int (iI (0)), .ref mnw, .null, .null, .null, .int (iI (0)), .int (iI (0)), .int (iI (0)), .int (iI (0)), .null, .null, .null, .null, .long (lI (0)), .long (lI (0)), .long (lI (0)), .int (iI (0)), .int (iI (0))])), (mnw, .inl (k4 0, 19, .inl (fun i9 => iI ((fun _ => 0) i9))))] H locs := G
  refine z_aload_n E hl 0 rfl dX5_init_12 rfl ?_
  refine z_sipush E dX5_init_13 (by decide) ?_
  refine z_newa_int E G (n := 912) rfl zw_31 (by first | exact Nat.le_of_ble_eq_true rfl | omega | (show _ ≤ (8); omega)) (by first | exact Nat.le_of_ble_eq_true rfl | omega | (show _ ≤ (3871); omega)) (by decide) dX5_init_16 (fun mte H G => ?_)
  have G : zG D AA ss.heap [(mo, .inr (5, [.int (iI (0)), .int (iI (0)), .ref mnw, .null, .null, .null, .int (iI (0)), .int (iI (0)), .int (iI (0)), .int (iI (0)), .null, .null, .null, .null, .long (lI (0)), .long (lI (0)), .long (lI (0)), .int (iI (0)), .int (iI (0))])), (mnw, .inl (k4 0, 19, .inl (fun i9 => iI ((fun _ => 0) i9)))), (mte, .inl (k4 0, 912, .inl (fun i9 => iI ((fun _ => 0) i9))))] H locs := G
  refine kp_X5_13 E hin G 0 rfl (Nat.le_of_ble_eq_true rfl) dX5_init_18 (fun H locs G => ?_)
  have G : zG D AA ss.heap [(mo, .inr (5, [.int (iI (0)), .int (iI (0)), .ref mnw, .ref mte, .null, .null, .int (iI (0)), .int (iI (0)), .int (iI (0)), .int (iI (0)), .null, .null, .null, .null, .long (lI (0)), .long (lI (0)), .long (lI (0)), .int (iI (0)), .int (iI (0))])), (mnw, .inl (k4 0, 19, .inl (fun i9 => iI ((fun _ => 0) i9)))), (mte, .inl (k4 0, 912, .inl (fun i9 => iI ((fun _ => 0) i9))))] H locs := G
  refine z_aload_n E hl 0 rfl dX5_init_21 rfl ?_
  refine z_sipush E dX5_init_22 (by decide) ?_
  refine z_newa_int E G (n := 288) rfl zw_31 (by first | exact Nat.le_of_ble_eq_true rfl | omega | (show _ ≤ (8); omega)) (by first | exact Nat.le_of_ble_eq_true rfl | omega | (show _ ≤ (3871); omega)) (by decide) dX5_init_25 (fun mge H G => ?_)
  have G : zG D AA ss.heap [(mo, .inr (5, [.int (iI (0)), .int (iI (0)), .ref mnw, .ref mte, .null, .null, .int (iI (0)), .int (iI (0)), .int (iI (0)), .int (iI (0)), .null, .null, .null, .null, .long (lI (0)), .long (lI (0)), .long (lI (0)), .int (iI (0)), .int (iI (0))])), (mnw, .inl (k4 0, 19, .inl (fun i9 => iI ((fun _ => 0) i9)))), (mte, .inl (k4 0, 912, .inl (fun i9 => iI ((fun _ => 0) i9)))), (mge, .inl (k4 0, 288, .inl (fun i9 => iI ((fun _ => 0) i9))))] H locs := G
  refine kp_X5_16 E hin G 0 rfl (Nat.le_of_ble_eq_true rfl) dX5_init_27 (fun H locs G => ?_)
  have G : zG D AA ss.heap [(mo, .inr (5, [.int (iI (0)), .int (iI (0)), .ref mnw, .ref mte, .ref mge, .null, .int (iI (0)), .int (iI (0)), .int (iI (0)), .int (iI (0)), .null, .null, .null, .null, .long (lI (0)), .long (lI (0)), .long (lI (0)), .int (iI (0)), .int (iI (0))])), (mnw, .inl (k4 0, 19, .inl (fun i9 => iI ((fun _ => 0) i9)))), (mte, .inl (k4 0, 912, .inl (fun i9 => iI ((fun _ => 0) i9)))), (mge, .inl (k4 0, 288, .inl (fun i9 => iI ((fun _ => 0) i9))))] H locs := G
  refine z_aload_n E hl 0 rfl dX5_init_30 rfl ?_
  refine z_sipush E dX5_init_31 (by decide) ?_
  refine z_newa_int E G (n := 288) rfl zw_31 (by first | exact Nat.le_of_ble_eq_true rfl | omega | (show _ ≤ (8); omega)) (by first | exact Nat.le_of_ble_eq_true rfl | omega | (show _ ≤ (3871); omega)) (by decide) dX5_init_34 (fun mus H G => ?_)
  have G : zG D AA ss.heap [(mo, .inr (5, [.int (iI (0)), .int (iI (0)), .ref mnw, .ref mte, .ref mge, .null, .int (iI (0)), .int (iI (0)), .int (iI (0)), .int (iI (0)), .null, .null, .null, .null, .long (lI (0)), .long (lI (0)), .long (lI (0)), .int (iI (0)), .int (iI (0))])), (mnw, .inl (k4 0, 19, .inl (fun i9 => iI ((fun _ => 0) i9)))), (mte, .inl (k4 0, 912, .inl (fun i9 => iI ((fun _ => 0) i9)))), (mge, .inl (k4 0, 288, .inl (fun i9 => iI ((fun _ => 0) i9)))), (mus, .inl (k4 0, 288, .inl (fun i9 => iI ((fun _ => 0) i9))))] H locs := G
  refine kp_X5_19 E hin G 0 rfl (Nat.le_of_ble_eq_true rfl) dX5_init_36 (fun H locs G => ?_)
  have G : zG D AA ss.heap [(mo, .inr (5, [.int (iI (0)), .int (iI (0)), .ref mnw, .ref mte, .ref mge, .ref mus, .int (iI (0)), .int (iI (0)), .int (iI (0)), .int (iI (0)), .null, .null, .null, .null, .long (lI (0)), .long (lI (0)), .long (lI (0)), .int (iI (0)), .int (iI (0))])), (mnw, .inl (k4 0, 19, .inl (fun i9 => iI ((fun _ => 0) i9)))), (mte, .inl (k4 0, 912, .inl (fun i9 => iI ((fun _ => 0) i9)))), (mge, .inl (k4 0, 288, .inl (fun i9 => iI ((fun _ => 0) i9)))), (mus, .inl (k4 0, 288, .inl (fun i9 => iI ((fun _ => 0) i9))))] H locs := G
  refine z_aload_n E hl 0 rfl dX5_init_39 rfl ?_
  refine z_bipush E dX5_init_40 (by decide) ?_
  refine z_newa_int E G (n := 48) rfl zw_31 (by first | exact Nat.le_of_ble_eq_true rfl | omega | (show _ ≤ (8); omega)) (by first | exact Nat.le_of_ble_eq_true rfl | omega | (show _ ≤ (3871); omega)) (by decide) dX5_init_42 (fun mco H G => ?_)
  have G : zG D AA ss.heap [(mo, .inr (5, [.int (iI (0)), .int (iI (0)), .ref mnw, .ref mte, .ref mge, .ref mus, .int (iI (0)), .int (iI (0)), .int (iI (0)), .int (iI (0)), .null, .null, .null, .null, .long (lI (0)), .long (lI (0)), .long (lI (0)), .int (iI (0)), .int (iI (0))])), (mnw, .inl (k4 0, 19, .inl (fun i9 => iI ((fun _ => 0) i9)))), (mte, .inl (k4 0, 912, .inl (fun i9 => iI ((fun _ => 0) i9)))), (mge, .inl (k4 0, 288, .inl (fun i9 => iI ((fun _ => 0) i9)))), (mus, .inl (k4 0, 288, .inl (fun i9 => iI ((fun _ => 0) i9)))), (mco, .inl (k4 0, 48, .inl (fun i9 => iI ((fun _ => 0) i9))))] H locs := G
  refine kp_X5_22 E hin G 0 rfl (Nat.le_of_ble_eq_true rfl) dX5_init_44 (fun H locs G => ?_)
  have G : zG D AA ss.heap [(mo, .inr (5, [.int (iI (0)), .int (iI (0)), .ref mnw, .ref mte, .ref mge, .ref mus, .int (iI (0)), .int (iI (0)), .int (iI (0)), .int (iI (0)), .ref mco, .null, .null, .null, .long (lI (0)), .long (lI (0)), .long (lI (0)), .int (iI (0)), .int (iI (0))])), (mnw, .inl (k4 0, 19, .inl (fun i9 => iI ((fun _ => 0) i9)))), (mte, .inl (k4 0, 912, .inl (fun i9 => iI ((fun _ => 0) i9)))), (mge, .inl (k4 0, 288, .inl (fun i9 => iI ((fun _ => 0) i9)))), (mus, .inl (k4 0, 288, .inl (fun i9 => iI ((fun _ => 0) i9)))), (mco, .inl (k4 0, 48, .inl (fun i9 => iI ((fun _ => 0) i9))))] H locs := G
  refine z_aload_n E hl 0 rfl dX5_init_47 rfl ?_
  refine z_sipush E dX5_init_48 (by decide) ?_
  refine z_newa_int E G (n := 2304) rfl zw_31 (by first | exact Nat.le_of_ble_eq_true rfl | omega | (show _ ≤ (8); omega)) (by first | exact Nat.le_of_ble_eq_true rfl | omega | (show _ ≤ (3871); omega)) (by decide) dX5_init_51 (fun mfl H G => ?_)
  have G : zG D AA ss.heap [(mo, .inr (5, [.int (iI (0)), .int (iI (0)), .ref mnw, .ref mte, .ref mge, .ref mus, .int (iI (0)), .int (iI (0)), .int (iI (0)), .int (iI (0)), .ref mco, .null, .null, .null, .long (lI (0)), .long (lI (0)), .long (lI (0)), .int (iI (0)), .int (iI (0))])), (mnw, .inl (k4 0, 19, .inl (fun i9 => iI ((fun _ => 0) i9)))), (mte, .inl (k4 0, 912, .inl (fun i9 => iI ((fun _ => 0) i9)))), (mge, .inl (k4 0, 288, .inl (fun i9 => iI ((fun _ => 0) i9)))), (mus, .inl (k4 0, 288, .inl (fun i9 => iI ((fun _ => 0) i9)))), (mco, .inl (k4 0, 48, .inl (fun i9 => iI ((fun _ => 0) i9)))), (mfl, .inl (k4 0, 2304, .inl (fun i9 => iI ((fun _ => 0) i9))))] H locs := G
  refine kp_X5_25 E hin G 0 rfl (Nat.le_of_ble_eq_true rfl) dX5_init_53 (fun H locs G => ?_)
  have G : zG D AA ss.heap [(mo, .inr (5, [.int (iI (0)), .int (iI (0)), .ref mnw, .ref mte, .ref mge, .ref mus, .int (iI (0)), .int (iI (0)), .int (iI (0)), .int (iI (0)), .ref mco, .ref mfl, .null, .null, .long (lI (0)), .long (lI (0)), .long (lI (0)), .int (iI (0)), .int (iI (0))])), (mnw, .inl (k4 0, 19, .inl (fun i9 => iI ((fun _ => 0) i9)))), (mte, .inl (k4 0, 912, .inl (fun i9 => iI ((fun _ => 0) i9)))), (mge, .inl (k4 0, 288, .inl (fun i9 => iI ((fun _ => 0) i9)))), (mus, .inl (k4 0, 288, .inl (fun i9 => iI ((fun _ => 0) i9)))), (mco, .inl (k4 0, 48, .inl (fun i9 => iI ((fun _ => 0) i9)))), (mfl, .inl (k4 0, 2304, .inl (fun i9 => iI ((fun _ => 0) i9))))] H locs := G
  refine z_aload_n E hl 0 rfl dX5_init_56 rfl ?_
  refine z_bipush E dX5_init_57 (by decide) ?_
  refine z_newa_long E G (n := 6) rfl zw_6 (by first | exact Nat.le_of_ble_eq_true rfl | omega | (show _ ≤ (8); omega)) (by first | exact Nat.le_of_ble_eq_true rfl | omega | (show _ ≤ (3871); omega)) (by decide) dX5_init_59 (fun mba H G => ?_)
  have G : zG D AA ss.heap [(mo, .inr (5, [.int (iI (0)), .int (iI (0)), .ref mnw, .ref mte, .ref mge, .ref mus, .int (iI (0)), .int (iI (0)), .int (iI (0)), .int (iI (0)), .ref mco, .ref mfl, .null, .null, .long (lI (0)), .long (lI (0)), .long (lI (0)), .int (iI (0)), .int (iI (0))])), (mnw, .inl (k4 0, 19, .inl (fun i9 => iI ((fun _ => 0) i9)))), (mte, .inl (k4 0, 912, .inl (fun i9 => iI ((fun _ => 0) i9)))), (mge, .inl (k4 0, 288, .inl (fun i9 => iI ((fun _ => 0) i9)))), (mus, .inl (k4 0, 288, .inl (fun i9 => iI ((fun _ => 0) i9)))), (mco, .inl (k4 0, 48, .inl (fun i9 => iI ((fun _ => 0) i9)))), (mfl, .inl (k4 0, 2304, .inl (fun i9 => iI ((fun _ => 0) i9)))), (mba, .inl (k4 1, 6, .inr (.inl (fun i9 => lI ((fun _ => 0) i9)))))] H locs := G
  refine kp_X5_28 E hin G 0 rfl (Nat.le_of_ble_eq_true rfl) dX5_init_61 (fun H locs G => ?_)
  have G : zG D AA ss.heap [(mo, .inr (5, [.int (iI (0)), .int (iI (0)), .ref mnw, .ref mte, .ref mge, .ref mus, .int (iI (0)), .int (iI (0)), .int (iI (0)), .int (iI (0)), .ref mco, .ref mfl, .ref mba, .null, .long (lI (0)), .long (lI (0)), .long (lI (0)), .int (iI (0)), .int (iI (0))])), (mnw, .inl (k4 0, 19, .inl (fun i9 => iI ((fun _ => 0) i9)))), (mte, .inl (k4 0, 912, .inl (fun i9 => iI ((fun _ => 0) i9)))), (mge, .inl (k4 0, 288, .inl (fun i9 => iI ((fun _ => 0) i9)))), (mus, .inl (k4 0, 288, .inl (fun i9 => iI ((fun _ => 0) i9)))), (mco, .inl (k4 0, 48, .inl (fun i9 => iI ((fun _ => 0) i9)))), (mfl, .inl (k4 0, 2304, .inl (fun i9 => iI ((fun _ => 0) i9)))), (mba, .inl (k4 1, 6, .inr (.inl (fun i9 => lI ((fun _ => 0) i9)))))] H locs := G
  refine z_aload_n E hl 0 rfl dX5_init_64 rfl ?_
  refine z_bipush E dX5_init_65 (by decide) ?_
  refine z_newa_long E G (n := 6) rfl zw_6 (by first | exact Nat.le_of_ble_eq_true rfl | omega | (show _ ≤ (8); omega)) (by first | exact Nat.le_of_ble_eq_true rfl | omega | (show _ ≤ (3871); omega)) (by decide) dX5_init_67 (fun mdu H G => ?_)
  have G : zG D AA ss.heap [(mo, .inr (5, [.int (iI (0)), .int (iI (0)), .ref mnw, .ref mte, .ref mge, .ref mus, .int (iI (0)), .int (iI (0)), .int (iI (0)), .int (iI (0)), .ref mco, .ref mfl, .ref mba, .null, .long (lI (0)), .long (lI (0)), .long (lI (0)), .int (iI (0)), .int (iI (0))])), (mnw, .inl (k4 0, 19, .inl (fun i9 => iI ((fun _ => 0) i9)))), (mte, .inl (k4 0, 912, .inl (fun i9 => iI ((fun _ => 0) i9)))), (mge, .inl (k4 0, 288, .inl (fun i9 => iI ((fun _ => 0) i9)))), (mus, .inl (k4 0, 288, .inl (fun i9 => iI ((fun _ => 0) i9)))), (mco, .inl (k4 0, 48, .inl (fun i9 => iI ((fun _ => 0) i9)))), (mfl, .inl (k4 0, 2304, .inl (fun i9 => iI ((fun _ => 0) i9)))), (mba, .inl (k4 1, 6, .inr (.inl (fun i9 => lI ((fun _ => 0) i9))))), (mdu, .inl (k4 1, 6, .inr (.inl (fun i9 => lI ((fun _ => 0) i9)))))] H locs := G
  refine kp_X5_32 E hin G 0 rfl (Nat.le_of_ble_eq_true rfl) dX5_init_69 (fun H locs G => ?_)
  have G : zG D AA ss.heap [(mo, .inr (5, [.int (iI (0)), .int (iI (0)), .ref mnw, .ref mte, .ref mge, .ref mus, .int (iI (0)), .int (iI (0)), .int (iI (0)), .int (iI (0)), .ref mco, .ref mfl, .ref mba, .ref mdu, .long (lI (0)), .long (lI (0)), .long (lI (0)), .int (iI (0)), .int (iI (0))])), (mnw, .inl (k4 0, 19, .inl (fun i9 => iI ((fun _ => 0) i9)))), (mte, .inl (k4 0, 912, .inl (fun i9 => iI ((fun _ => 0) i9)))), (mge, .inl (k4 0, 288, .inl (fun i9 => iI ((fun _ => 0) i9)))), (mus, .inl (k4 0, 288, .inl (fun i9 => iI ((fun _ => 0) i9)))), (mco, .inl (k4 0, 48, .inl (fun i9 => iI ((fun _ => 0) i9)))), (mfl, .inl (k4 0, 2304, .inl (fun i9 => iI ((fun _ => 0) i9)))), (mba, .inl (k4 1, 6, .inr (.inl (fun i9 => lI ((fun _ => 0) i9))))), (mdu, .inl (k4 1, 6, .inr (.inl (fun i9 => lI ((fun _ => 0) i9)))))] H locs := G
  refine z_aload_n E hl 0 rfl dX5_init_72 rfl ?_
  refine kg_X5_9 E G 0 rfl rfl dX5_init_73 ?_
  refine z_iconst E dX5_init_76 ?_
  refine z_bipush E dX5_init_77 (by decide) ?_
  refine z_iast E G 1 rfl (1) rfl (by decide) (by decide) dX5_init_79 (fun H locs G => ?_)
  have G : zG D AA ss.heap [(mo, .inr (5, [.int (iI (0)), .int (iI (0)), .ref mnw, .ref mte, .ref mge, .ref mus, .int (iI (0)), .int (iI (0)), .int (iI (0)), .int (iI (0)), .ref mco, .ref mfl, .ref mba, .ref mdu, .long (lI (0)), .long (lI (0)), .long (lI (0)), .int (iI (0)), .int (iI (0))])), (mnw, .inl (k4 0, 19, .inl (fun i9 => iI ((up (fun _ => 0) (1) (30)) i9)))), (mte, .inl (k4 0, 912, .inl (fun i9 => iI ((fun _ => 0) i9)))), (mge, .inl (k4 0, 288, .inl (fun i9 => iI ((fun _ => 0) i9)))), (mus, .inl (k4 0, 288, .inl (fun i9 => iI ((fun _ => 0) i9)))), (mco, .inl (k4 0, 48, .inl (fun i9 => iI ((fun _ => 0) i9)))), (mfl, .inl (k4 0, 2304, .inl (fun i9 => iI ((fun _ => 0) i9)))), (mba, .inl (k4 1, 6, .inr (.inl (fun i9 => lI ((fun _ => 0) i9))))), (mdu, .inl (k4 1, 6, .inr (.inl (fun i9 => lI ((fun _ => 0) i9)))))] H locs := G
  refine z_aload_n E hl 0 rfl dX5_init_80 rfl ?_
  refine kg_X5_9 E G 0 rfl rfl dX5_init_81 ?_
  refine z_iconst E dX5_init_84 ?_
  refine z_bipush E dX5_init_85 (by decide) ?_
  refine z_iast E G 1 rfl (2) rfl (by decide) (by decide) dX5_init_87 (fun H locs G => ?_)
  have G : zG D AA ss.heap [(mo, .inr (5, [.int (iI (0)), .int (iI (0)), .ref mnw, .ref mte, .ref mge, .ref mus, .int (iI (0)), .int (iI (0)), .int (iI (0)), .int (iI (0)), .ref mco, .ref mfl, .ref mba, .ref mdu, .long (lI (0)), .long (lI (0)), .long (lI (0)), .int (iI (0)), .int (iI (0))])), (mnw, .inl (k4 0, 19, .inl (fun i9 => iI ((up (up (fun _ => 0) (1) (30)) (2) (8)) i9)))), (mte, .inl (k4 0, 912, .inl (fun i9 => iI ((fun _ => 0) i9)))), (mge, .inl (k4 0, 288, .inl (fun i9 => iI ((fun _ => 0) i9)))), (mus, .inl (k4 0, 288, .inl (fun i9 => iI ((fun _ => 0) i9)))), (mco, .inl (k4 0, 48, .inl (fun i9 => iI ((fun _ => 0) i9)))), (mfl, .inl (k4 0, 2304, .inl (fun i9 => iI ((fun _ => 0) i9)))), (mba, .inl (k4 1, 6, .inr (.inl (fun i9 => lI ((fun _ => 0) i9))))), (mdu, .inl (k4 1, 6, .inr (.inl (fun i9 => lI ((fun _ => 0) i9)))))] H locs := G
  refine z_aload_n E hl 0 rfl dX5_init_88 rfl ?_
  refine kg_X5_9 E G 0 rfl rfl dX5_init_89 ?_
  refine z_iconst E dX5_init_92 ?_
  refine z_bipush E dX5_init_93 (by decide) ?_
  refine z_iast E G 1 rfl (3) rfl (by decide) (by decide) dX5_init_95 (fun H locs G => ?_)
  have G : zG D AA ss.heap [(mo, .inr (5, [.int (iI (0)), .int (iI (0)), .ref mnw, .ref mte, .ref mge, .ref mus, .int (iI (0)), .int (iI (0)), .int (iI (0)), .int (iI (0)), .ref mco, .ref mfl, .ref mba, .ref mdu, .long (lI (0)), .long (lI (0)), .long (lI (0)), .int (iI (0)), .int (iI (0))])), (mnw, .inl (k4 0, 19, .inl (fun i9 => iI ((up (up (up (fun _ => 0) (1) (30)) (2) (8)) (3) (18)) i9)))), (mte, .inl (k4 0, 912, .inl (fun i9 => iI ((fun _ => 0) i9)))), (mge, .inl (k4 0, 288, .inl (fun i9 => iI ((fun _ => 0) i9)))), (mus, .inl (k4 0, 288, .inl (fun i9 => iI ((fun _ => 0) i9)))), (mco, .inl (k4 0, 48, .inl (fun i9 => iI ((fun _ => 0) i9)))), (mfl, .inl (k4 0, 2304, .inl (fun i9 => iI ((fun _ => 0) i9)))), (mba, .inl (k4 1, 6, .inr (.inl (fun i9 => lI ((fun _ => 0) i9))))), (mdu, .inl (k4 1, 6, .inr (.inl (fun i9 => lI ((fun _ => 0) i9)))))] H locs := G
  refine z_aload_n E hl 0 rfl dX5_init_96 rfl ?_
  refine kg_X5_9 E G 0 rfl rfl dX5_init_97 ?_
  refine z_bipush E dX5_init_100 (by decide) ?_
  refine z_bipush E dX5_init_102 (by decide) ?_
  refine z_iast E G 1 rfl (6) rfl (by decide) (by decide) dX5_init_104 (fun H locs G => ?_)
  have G : zG D AA ss.heap [(mo, .inr (5, [.int (iI (0)), .int (iI (0)), .ref mnw, .ref mte, .ref mge, .ref mus, .int (iI (0)), .int (iI (0)), .int (iI (0)), .int (iI (0)), .ref mco, .ref mfl, .ref mba, .ref mdu, .long (lI (0)), .long (lI (0)), .long (lI (0)), .int (iI (0)), .int (iI (0))])), (mnw, .inl (k4 0, 19, .inl (fun i9 => iI ((up (up (up (up (fun _ => 0) (1) (30)) (2) (8)) (3) (18)) (6) (100)) i9)))), (mte, .inl (k4 0, 912, .inl (fun i9 => iI ((fun _ => 0) i9)))), (mge, .inl (k4 0, 288, .inl (fun i9 => iI ((fun _ => 0) i9)))), (mus, .inl (k4 0, 288, .inl (fun i9 => iI ((fun _ => 0) i9)))), (mco, .inl (k4 0, 48, .inl (fun i9 => iI ((fun _ => 0) i9)))), (mfl, .inl (k4 0, 2304, .inl (fun i9 => iI ((fun _ => 0) i9)))), (mba, .inl (k4 1, 6, .inr (.inl (fun i9 => lI ((fun _ => 0) i9))))), (mdu, .inl (k4 1, 6, .inr (.inl (fun i9 => lI ((fun _ => 0) i9)))))] H locs := G
  have G := z_ext G 1 rfl (F' := t00) (fun k hk => by
    rcases Nat.lt_or_ge k 7 with g9 | g9
    · have h9 : k = 0 ∨ k = 1 ∨ k = 2 ∨ k = 3 ∨ k = 4 ∨ k = 5 ∨ k = 6 := by omega
      rcases h9 with rfl | rfl | rfl | rfl | rfl | rfl | rfl <;> rfl
    · unfold t00 up
      simp only [if_neg (show ¬ k = 6 by omega), if_neg (show ¬ k = 3 by omega), if_neg (show ¬ k = 2 by omega), if_neg (show ¬ k = 1 by omega)])
  exact z_vret (w' := [(mo, .inr (5, [.int (iI (0)), .int (iI (0)), .ref mnw, .ref mte, .ref mge, .ref mus, .int (iI (0)), .int (iI (0)), .int (iI (0)), .int (iI (0)), .ref mco, .ref mfl, .ref mba, .ref mdu, .long (lI (0)), .long (lI (0)), .long (lI (0)), .int (iI (0)), .int (iI (0))])), (mnw, .inl (k4 0, 19, .inl (fun i9 => iI (t00 i9)))), (mte, .inl (k4 0, 912, .inl (fun i9 => iI ((fun _ => 0) i9)))), (mge, .inl (k4 0, 288, .inl (fun i9 => iI ((fun _ => 0) i9)))), (mus, .inl (k4 0, 288, .inl (fun i9 => iI ((fun _ => 0) i9)))), (mco, .inl (k4 0, 48, .inl (fun i9 => iI ((fun _ => 0) i9)))), (mfl, .inl (k4 0, 2304, .inl (fun i9 => iI ((fun _ => 0) i9)))), (mba, .inl (k4 1, 6, .inr (.inl (fun i9 => lI ((fun _ => 0) i9))))), (mdu, .inl (k4 1, 6, .inr (.inl (fun i9 => lI ((fun _ => 0) i9)))))]) E hr hlocks G dX5_init_105 (by omega) (by omega) (⟨[mnw, mte, mge, mus, mco, mfl, mba, mdu], rfl⟩) ⟨mnw, mte, mge, mus, mco, mfl, mba, mdu, rfl, rfl⟩

