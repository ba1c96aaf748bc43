def q_c_X5_close_ (k4 : Nat → ClassId) (mo mnw mte mge mus mco mfl mba mdu : Nat) (th : Int) (n p st : Nat) (cc bc pot gr bk btw bhd : Int) (NW TE GE US CO FL BA : Nat → Int) : Option Value → va_W → Prop := (fun (v9 : Option Value) (w9 : va_W) => v9 = some (.int (iI (betW (fun x0 => GE (48 * x0 + p)) (fun x0 => US (48 * x0 + p))))) ∧ w9 = [(mo, .inr (5, [.int (iI (0)), .int (iI (((n : Nat) : Int))), .ref mnw, .ref mte, .ref mge, .ref mus, .int (iI (((p + 1 : Nat) : Int))), .int (iI (((st : Nat) : Int))), .int (iI (cc)), .int (iI (CAft (fun x0 => GE (48 * x0 + p)) (fun x0 => US (48 * x0 + p)) NW bc)), .ref mco, .ref mfl, .ref mba, .ref mdu, .long (lI (pot + mP NW (CV (fun x0 => GE (48 * x0 + p)) (fun x0 => US (48 * x0 + p)) NW bc) 1 n)), .long (lI (gr + mG NW (CV (fun x0 => GE (48 * x0 + p)) (fun x0 => US (48 * x0 + p)) NW bc) 1 n)), .long (lI (bk)), .int (iI (betW (fun x0 => GE (48 * x0 + p)) (fun x0 => US (48 * x0 + p)))), .int (iI (CAft (fun x0 => GE (48 * x0 + p)) (fun x0 => US (48 * x0 + p)) NW bc))])), (mnw, .inl (k4 0, 19, .inl (fun i9 => iI (NW i9)))), (mte, .inl (k4 0, 912, .inl (fun i9 => iI ((cpyI NW TE 0 (19 * p) 19) i9)))), (mge, .inl (k4 0, 288, .inl (fun i9 => iI (GE i9)))), (mus, .inl (k4 0, 288, .inl (fun i9 => iI (US i9)))), (mco, .inl (k4 0, 48, .inl (fun i9 => iI ((up CO p bc) i9)))), (mfl, .inl (k4 0, 2304, .inl (fun i9 => iI ((cpyI (CV (fun x0 => GE (48 * x0 + p)) (fun x0 => US (48 * x0 + p)) NW bc) FL 0 (48 * p) 48) i9)))), (mba, .inl (k4 1, 6, .inr (.inl (fun i9 => lI ((bookB BA (CV (fun x0 => GE (48 * x0 + p)) (fun x0 => US (48 * x0 + p)) NW bc) 1 n) i9)))))])
set_option maxHeartbeats 4000000 in
set_option maxRecDepth 100000 in
theorem c_X5_close_ (l : Launch) (D : va_G) (k4 : Nat → ClassId) (mo mnw mte mge mus mco mfl mba mdu : Nat) (th : Int) (n p st : Nat) (cc bc pot gr bk btw bhd : Int) (NW TE GE US CO FL BA : Nat → Int) (hn : n ≤ 6) (hp : p < 48) (hg : rdOK (fun x0 => GE (48 * x0 + p))) (hu : rdOK (fun x0 => US (48 * x0 + p))) (g0 : nul n (fun x0 => GE (48 * x0 + p))) (u0 : nul n (fun x0 => US (48 * x0 + p))) (ht : tOK NW) (hc : 0 ≤ bc ∧ bc ≤ NW 4) (hn0 : 0 < n) : zC l yX5_close_ (zW yX5_close_ cX5_close_ 1 (some .int)) ({ frames := 6, cells := 17 + 2 * rdC (fun x0 => GE (48 * x0 + p)) (fun x0 => US (48 * x0 + p)), slots := 11 * (17 + 2 * rdC (fun x0 => GE (48 * x0 + p)) (fun x0 => US (48 * x0 + p))), locals := 169 } : Room) D k4 [.ref mo] [(mo, .inr (5, [.int (iI (th)), .int (iI (((n : Nat) : Int))), .ref mnw, .ref mte, .ref mge, .ref mus, .int (iI (((p : Nat) : Int))), .int (iI (((st : Nat) : Int))), .int (iI (cc)), .int (iI (bc)), .ref mco, .ref mfl, .ref mba, .ref mdu, .long (lI (pot)), .long (lI (gr)), .long (lI (bk)), .int (iI (btw)), .int (iI (bhd))])), (mnw, .inl (k4 0, 19, .inl (fun i9 => iI (NW i9)))), (mte, .inl (k4 0, 912, .inl (fun i9 => iI (TE i9)))), (mge, .inl (k4 0, 288, .inl (fun i9 => iI (GE i9)))), (mus, .inl (k4 0, 288, .inl (fun i9 => iI (US i9)))), (mco, .inl (k4 0, 48, .inl (fun i9 => iI (CO i9)))), (mfl, .inl (k4 0, 2304, .inl (fun i9 => iI (FL i9)))), (mba, .inl (k4 1, 6, .inr (.inl (fun i9 => lI (BA i9)))))] (17 + 2 * rdC (fun x0 => GE (48 * x0 + p)) (fun x0 => US (48 * x0 + p))) (11 * (17 + 2 * rdC (fun x0 => GE (48 * x0 + p)) (fun x0 => US (48 * x0 + p)))) (q_c_X5_close_ k4 mo mnw mte mge mus mco mfl mba mdu th n p st cc bc pot gr bk btw bhd NW TE GE US CO FL BA) := by
  refine zC_of (cc := cX5_close_) (by decide) (Nat.le_of_ble_eq_true rfl) (fun pp ee ss mm bl me co AA H locs ls E hr hlocks hin G hl => ?_)
  have hl : lv_has ls 1 [(0, .ref mo)] := hl
  have x19 : t19 (fun i => (cpyI NW TE 0 (19 * p) 19) (19 * p + i)) NW := t19_cpy
  have ht2 := tOK_19 x19 ht
  have x4 : (cpyI NW TE 0 (19 * p) 19) (19 * p + 4) = NW 4 := x19 4 (by decide)
  have xm : min bc ((cpyI NW TE 0 (19 * p) 19) (19 * p + 4)) = bc := by rw [x4]; omega
  have z4 := ht.2.2.2.2.1
  have yb := clY_b (cb := min bc ((cpyI NW TE 0 (19 * p) 19) (19 * p + 4))) hg hu ht2 (by omega)
  have xA : CAft (fun x0 => GE (48 * x0 + p)) (fun x0 => US (48 * x0 + p)) (fun i => (cpyI NW TE 0 (19 * p) 19) (19 * p + i)) (min bc ((cpyI NW TE 0 (19 * p) 19) (19 * p + 4))) = CAft (fun x0 => GE (48 * x0 + p)) (fun x0 => US (48 * x0 + p)) NW bc := by rw [xm]; exact CAft_eq eq6.rf eq6.rf x19
  have xC : ∀ i, i < 48 → (CV (fun x0 => GE (48 * x0 + p)) (fun x0 => US (48 * x0 + p)) (fun i => (cpyI NW TE 0 (19 * p) 19) (19 * p + i)) (min bc ((cpyI NW TE 0 (19 * p) 19) (19 * p + 4)))) i = (CV (fun x0 => GE (48 * x0 + p)) (fun x0 => US (48 * x0 + p)) NW bc) i := fun i hi => by rw [xm]; exact CV_48 x19 i hi
  have xP : mP (fun i => (cpyI NW TE 0 (19 * p) 19) (19 * p + i)) (CV (fun x0 => GE (48 * x0 + p)) (fun x0 => US (48 * x0 + p)) (fun i => (cpyI NW TE 0 (19 * p) 19) (19 * p + i)) (min bc ((cpyI NW TE 0 (19 * p) 19) (19 * p + 4)))) 1 n = mP NW (CV (fun x0 => GE (48 * x0 + p)) (fun x0 => US (48 * x0 + p)) NW bc) 1 n := (mP_congr xC hn).trans (mP_t x19)
  have xG : mG (fun i => (cpyI NW TE 0 (19 * p) 19) (19 * p + i)) (CV (fun x0 => GE (48 * x0 + p)) (fun x0 => US (48 * x0 + p)) (fun i => (cpyI NW TE 0 (19 * p) 19) (19 * p + i)) (min bc ((cpyI NW TE 0 (19 * p) 19) (19 * p + 4)))) 1 n = mG NW (CV (fun x0 => GE (48 * x0 + p)) (fun x0 => US (48 * x0 + p)) NW bc) 1 n := (mG_congr xC hn).trans (mG_t x19)
  have xB : bookB BA (CV (fun x0 => GE (48 * x0 + p)) (fun x0 => US (48 * x0 + p)) (fun i => (cpyI NW TE 0 (19 * p) 19) (19 * p + i)) (min bc ((cpyI NW TE 0 (19 * p) 19) (19 * p + 4)))) 1 n = bookB BA (CV (fun x0 => GE (48 * x0 + p)) (fun x0 => US (48 * x0 + p)) NW bc) 1 n := bookB_congr xC n hn
  refine z_aload_n E hl 0 rfl dX5_close__0 rfl ?_
  refine z_iconst E dX5_close__1 ?_
  refine kp_X5_35 E G 0 rfl (Nat.le_of_ble_eq_true rfl) dX5_close__2 (fun H locs G => ?_)
  have G : zG D AA ss.heap [(mo, .inr (5, [.int (iI (0)), .int (iI (((n : Nat) : Int))), .ref mnw, .ref mte, .ref mge, .ref mus, .int (iI (((p : Nat) : Int))), .int (iI (((st : Nat) : Int))), .int (iI (cc)), .int (iI (bc)), .ref mco, .ref mfl, .ref mba, .ref mdu, .long (lI (pot)), .long (lI (gr)), .long (lI (bk)), .int (iI (btw)), .int (iI (bhd))])), (mnw, .inl (k4 0, 19, .inl (fun i9 => iI (NW i9)))), (mte, .inl (k4 0, 912, .inl (fun i9 => iI (TE i9)))), (mge, .inl (k4 0, 288, .inl (fun i9 => iI (GE i9)))), (mus, .inl (k4 0, 288, .inl (fun i9 => iI (US i9)))), (mco, .inl (k4 0, 48, .inl (fun i9 => iI (CO i9)))), (mfl, .inl (k4 0, 2304, .inl (fun i9 => iI (FL i9)))), (mba, .inl (k4 1, 6, .inr (.inl (fun i9 => lI (BA i9)))))] H locs := G
  refine z_aload_n E hl 0 rfl dX5_close__5 rfl ?_
  refine kg_X5_48 E G 0 rfl rfl dX5_close__6 ?_
  refine z_bipush E dX5_close__9 (by decide) ?_
  refine z_icmp_eq (tgt := 21) E dX5_close__11 (by decide) ⟨by omega, by omega⟩ (by decide) (fun c_11 => absurd c_11 (by omega)) (fun c_11 => ?_)
  refine z_aload_n E hl 0 rfl dX5_close__14 rfl ?_
  refine kg_X5_39 E G 0 rfl rfl dX5_close__15 ?_
  refine z_if_ne (tgt := 27) E dX5_close__18 (by decide) ⟨by omega, by omega⟩ (fun c_18 => ?_) (fun c_18 => absurd c_18 (by omega))
  refine z_aload_n E hl 0 rfl dX5_close__27 rfl ?_
  refine kg_X5_9 E G 0 rfl rfl dX5_close__28 ?_
  refine z_iconst E dX5_close__31 ?_
  refine z_aload_n E hl 0 rfl dX5_close__32 rfl ?_
  refine kg_X5_13 E G 0 rfl rfl dX5_close__33 ?_
  refine z_bipush E dX5_close__36 (by decide) ?_
  refine z_aload_n E hl 0 rfl dX5_close__38 rfl ?_
  refine kg_X5_48 E G 0 rfl rfl dX5_close__39 ?_
  refine z_imul E dX5_close__42 ?_
  refine z_bipush E dX5_close__43 (by decide) ?_
  refine z_copyi E G hl.1 zw_416 zw_417 zw_418 zw_419 1 2 rfl rfl (0) (19 * p) (19) (by first | rfl | omega) (by first | rfl | omega) (by first | rfl | omega) (by omega) (by omega) (by decide) (by decide) (Nat.le_of_ble_eq_true rfl) (Nat.le_of_ble_eq_true rfl) dX5_close__45 (fun H locs G => ?_)
  have G : zG D AA ss.heap [(mo, .inr (5, [.int (iI (0)), .int (iI (((n : Nat) : Int))), .ref mnw, .ref mte, .ref mge, .ref mus, .int (iI (((p : Nat) : Int))), .int (iI (((st : Nat) : Int))), .int (iI (cc)), .int (iI (bc)), .ref mco, .ref mfl, .ref mba, .ref mdu, .long (lI (pot)), .long (lI (gr)), .long (lI (bk)), .int (iI (btw)), .int (iI (bhd))])), (mnw, .inl (k4 0, 19, .inl (fun i9 => iI (NW i9)))), (mte, .inl (k4 0, 912, .inl (fun i9 => iI ((cpyI NW TE (0) (19 * p) (19)) i9)))), (mge, .inl (k4 0, 288, .inl (fun i9 => iI (GE i9)))), (mus, .inl (k4 0, 288, .inl (fun i9 => iI (US i9)))), (mco, .inl (k4 0, 48, .inl (fun i9 => iI (CO i9)))), (mfl, .inl (k4 0, 2304, .inl (fun i9 => iI (FL i9)))), (mba, .inl (k4 1, 6, .inr (.inl (fun i9 => lI (BA i9)))))] H locs := G
  refine z_aload_n E hl 0 rfl dX5_close__48 rfl ?_
  refine z_aload_n E hl 0 rfl dX5_close__49 rfl ?_
  refine kg_X5_48 E G 0 rfl rfl dX5_close__50 ?_
  refine z_aload_n E hl 0 rfl dX5_close__53 rfl ?_
  refine kg_X5_69 E G 0 rfl rfl dX5_close__54 ?_
  refine z_callV E G hl.1 (c_X5_settleSlot l D k4 mo mnw mte mge mus mco mfl mba mdu 0 n p st cc bc pot gr bk btw bhd p bc ((cpyI NW TE 0 (19 * p) 19)) GE US CO FL BA hn hp hg hu g0 u0 ht2 (by omega)) kV_X5_150 ⟨rfl, rfl, Nat.le_of_ble_eq_true rfl, Nat.le_of_ble_eq_true rfl⟩ [0, 2, 3, 4, 5, 6, 7] rfl (by decide) 0 5 rfl rfl rfl rfl rfl (Nat.le_of_ble_eq_true rfl) dX5_close__57 ⟨(by first | exact Nat.le_of_ble_eq_true rfl | omega | (show _ ≤ (17 + 2 * rdC (fun x0 => GE (48 * x0 + p)) (fun x0 => US (48 * x0 + p))); omega)), (by first | exact Nat.le_of_ble_eq_true rfl | omega | (show _ ≤ (11 * (17 + 2 * rdC (fun x0 => GE (48 * x0 + p)) (fun x0 => US (48 * x0 + p)))); omega))⟩ (fun v9 w9 H locs hq G => ?_)
  obtain ⟨rfl, rfl⟩ := hq
  refine W.eq (g2 := F0 mm 60 ls []) rfl ?_
  have G : zG D AA ss.heap [(mo, .inr (5, [.int (iI (0)), .int (iI (((n : Nat) : Int))), .ref mnw, .ref mte, .ref mge, .ref mus, .int (iI (((p : Nat) : Int))), .int (iI (((st : Nat) : Int))), .int (iI (cc)), .int (iI (bc)), .ref mco, .ref mfl, .ref mba, .ref mdu, .long (lI (pot + mP (fun i => (cpyI NW TE 0 (19 * p) 19) (19 * p + i)) (CV (fun x0 => GE (48 * x0 + p)) (fun x0 => US (48 * x0 + p)) (fun i => (cpyI NW TE 0 (19 * p) 19) (19 * p + i)) (min bc ((cpyI NW TE 0 (19 * p) 19) (19 * p + 4)))) 1 n)), .long (lI (gr + mG (fun i => (cpyI NW TE 0 (19 * p) 19) (19 * p + i)) (CV (fun x0 => GE (48 * x0 + p)) (fun x0 => US (48 * x0 + p)) (fun i => (cpyI NW TE 0 (19 * p) 19) (19 * p + i)) (min bc ((cpyI NW TE 0 (19 * p) 19) (19 * p + 4)))) 1 n)), .long (lI (bk)), .int (iI (betW (fun x0 => GE (48 * x0 + p)) (fun x0 => US (48 * x0 + p)))), .int (iI (CAft (fun x0 => GE (48 * x0 + p)) (fun x0 => US (48 * x0 + p)) (fun i => (cpyI NW TE 0 (19 * p) 19) (19 * p + i)) (min bc ((cpyI NW TE 0 (19 * p) 19) (19 * p + 4)))))])), (mnw, .inl (k4 0, 19, .inl (fun i9 => iI (NW i9)))), (mte, .inl (k4 0, 912, .inl (fun i9 => iI ((cpyI NW TE 0 (19 * p) 19) i9)))), (mge, .inl (k4 0, 288, .inl (fun i9 => iI (GE i9)))), (mus, .inl (k4 0, 288, .inl (fun i9 => iI (US i9)))), (mco, .inl (k4 0, 48, .inl (fun i9 => iI ((up CO p (min bc ((cpyI NW TE 0 (19 * p) 19) (19 * p + 4)))) i9)))), (mfl, .inl (k4 0, 2304, .inl (fun i9 => iI ((cpyI (CV (fun x0 => GE (48 * x0 + p)) (fun x0 => US (48 * x0 + p)) (fun i => (cpyI NW TE 0 (19 * p) 19) (19 * p + i)) (min bc ((cpyI NW TE 0 (19 * p) 19) (19 * p + 4)))) FL 0 (48 * p) 48) i9)))), (mba, .inl (k4 1, 6, .inr (.inl (fun i9 => lI ((bookB BA (CV (fun x0 => GE (48 * x0 + p)) (fun x0 => US (48 * x0 + p)) (fun i => (cpyI NW TE 0 (19 * p) 19) (19 * p + i)) (min bc ((cpyI NW TE 0 (19 * p) 19) (19 * p + 4)))) 1 n) i9)))))] H locs := G
  have G := z_ext G 6 rfl (F' := (cpyI (CV (fun x0 => GE (48 * x0 + p)) (fun x0 => US (48 * x0 + p)) NW bc) FL 0 (48 * p) 48)) (fun k hk => by show (if 48 * p ≤ k ∧ k < 48 * p + 48 then (CV (fun x0 => GE (48 * x0 + p)) (fun x0 => US (48 * x0 + p)) (fun i => (cpyI NW TE 0 (19 * p) 19) (19 * p + i)) (min bc ((cpyI NW TE 0 (19 * p) 19) (19 * p + 4)))) (0 + (k - 48 * p)) else FL k) = (if 48 * p ≤ k ∧ k < 48 * p + 48 then (CV (fun x0 => GE (48 * x0 + p)) (fun x0 => US (48 * x0 + p)) NW bc) (0 + (k - 48 * p)) else FL k); split; exact xC _ (by omega); rfl)
  have G : zG D AA ss.heap [(mo, .inr (5, [.int (iI (0)), .int (iI (((n : Nat) : Int))), .ref mnw, .ref mte, .ref mge, .ref mus, .int (iI (((p : Nat) : Int))), .int (iI (((st : Nat) : Int))), .int (iI (cc)), .int (iI (bc)), .ref mco, .ref mfl, .ref mba, .ref mdu, .long (lI (pot + mP NW (CV (fun x0 => GE (48 * x0 + p)) (fun x0 => US (48 * x0 + p)) NW bc) 1 n)), .long (lI (gr + mG NW (CV (fun x0 => GE (48 * x0 + p)) (fun x0 => US (48 * x0 + p)) NW bc) 1 n)), .long (lI (bk)), .int (iI (betW (fun x0 => GE (48 * x0 + p)) (fun x0 => US (48 * x0 + p)))), .int (iI (CAft (fun x0 => GE (48 * x0 + p)) (fun x0 => US (48 * x0 + p)) NW bc))])), (mnw, .inl (k4 0, 19, .inl (fun i9 => iI (NW i9)))), (mte, .inl (k4 0, 912, .inl (fun i9 => iI ((cpyI NW TE 0 (19 * p) 19) i9)))), (mge, .inl (k4 0, 288, .inl (fun i9 => iI (GE i9)))), (mus, .inl (k4 0, 288, .inl (fun i9 => iI (US i9)))), (mco, .inl (k4 0, 48, .inl (fun i9 => iI ((up CO p bc) i9)))), (mfl, .inl (k4 0, 2304, .inl (fun i9 => iI ((cpyI (CV (fun x0 => GE (48 * x0 + p)) (fun x0 => US (48 * x0 + p)) NW bc) FL 0 (48 * p) 48) i9)))), (mba, .inl (k4 1, 6, .inr (.inl (fun i9 => lI ((bookB BA (CV (fun x0 => GE (48 * x0 + p)) (fun x0 => US (48 * x0 + p)) NW bc) 1 n) i9)))))] H locs := by rw [← xP, ← xG, ← xB, ← xA]; rw [← xm]; simp only [xm] at G ⊢; exact G
  refine z_aload_n E hl 0 rfl dX5_close__60 rfl ?_
  refine z_aload_n E hl 0 rfl dX5_close__61 rfl ?_
  refine kg_X5_111 E G 0 rfl rfl dX5_close__62 ?_
  refine kp_X5_69 E G 0 rfl (Nat.le_of_ble_eq_true rfl) dX5_close__65 (fun H locs G => ?_)
  have G : zG D AA ss.heap [(mo, .inr (5, [.int (iI (0)), .int (iI (((n : Nat) : Int))), .ref mnw, .ref mte, .ref mge, .ref mus, .int (iI (((p : Nat) : Int))), .int (iI (((st : Nat) : Int))), .int (iI (cc)), .int (iI (CAft (fun x0 => GE (48 * x0 + p)) (fun x0 => US (48 * x0 + p)) NW bc)), .ref mco, .ref mfl, .ref mba, .ref mdu, .long (lI (pot + mP NW (CV (fun x0 => GE (48 * x0 + p)) (fun x0 => US (48 * x0 + p)) NW bc) 1 n)), .long (lI (gr + mG NW (CV (fun x0 => GE (48 * x0 + p)) (fun x0 => US (48 * x0 + p)) NW bc) 1 n)), .long (lI (bk)), .int (iI (betW (fun x0 => GE (48 * x0 + p)) (fun x0 => US (48 * x0 + p)))), .int (iI (CAft (fun x0 => GE (48 * x0 + p)) (fun x0 => US (48 * x0 + p)) NW bc))])), (mnw, .inl (k4 0, 19, .inl (fun i9 => iI (NW i9)))), (mte, .inl (k4 0, 912, .inl (fun i9 => iI ((cpyI NW TE 0 (19 * p) 19) i9)))), (mge, .inl (k4 0, 288, .inl (fun i9 => iI (GE i9)))), (mus, .inl (k4 0, 288, .inl (fun i9 => iI (US i9)))), (mco, .inl (k4 0, 48, .inl (fun i9 => iI ((up CO p bc) i9)))), (mfl, .inl (k4 0, 2304, .inl (fun i9 => iI ((cpyI (CV (fun x0 => GE (48 * x0 + p)) (fun x0 => US (48 * x0 + p)) NW bc) FL 0 (48 * p) 48) i9)))), (mba, .inl (k4 1, 6, .inr (.inl (fun i9 => lI ((bookB BA (CV (fun x0 => GE (48 * x0 + p)) (fun x0 => US (48 * x0 + p)) NW bc) 1 n) i9)))))] H locs := G
  refine z_aload_n E hl 0 rfl dX5_close__68 rfl ?_
  refine z_dup E dX5_close__69 rfl ?_
  refine kg_X5_48 E G 0 rfl rfl dX5_close__70 ?_
  refine z_iconst E dX5_close__73 ?_
  refine z_iadd E dX5_close__74 ?_
  refine z_eq (y := ((p + 1 : Nat) : Int)) (by omega) ?_
  refine kp_X5_48 E G 0 rfl (Nat.le_of_ble_eq_true rfl) dX5_close__75 (fun H locs G => ?_)
  have G : zG D AA ss.heap [(mo, .inr (5, [.int (iI (0)), .int (iI (((n : Nat) : Int))), .ref mnw, .ref mte, .ref mge, .ref mus, .int (iI (((p + 1 : Nat) : Int))), .int (iI (((st : Nat) : Int))), .int (iI (cc)), .int (iI (CAft (fun x0 => GE (48 * x0 + p)) (fun x0 => US (48 * x0 + p)) NW bc)), .ref mco, .ref mfl, .ref mba, .ref mdu, .long (lI (pot + mP NW (CV (fun x0 => GE (48 * x0 + p)) (fun x0 => US (48 * x0 + p)) NW bc) 1 n)), .long (lI (gr + mG NW (CV (fun x0 => GE (48 * x0 + p)) (fun x0 => US (48 * x0 + p)) NW bc) 1 n)), .long (lI (bk)), .int (iI (betW (fun x0 => GE (48 * x0 + p)) (fun x0 => US (48 * x0 + p)))), .int (iI (CAft (fun x0 => GE (48 * x0 + p)) (fun x0 => US (48 * x0 + p)) NW bc))])), (mnw, .inl (k4 0, 19, .inl (fun i9 => iI (NW i9)))), (mte, .inl (k4 0, 912, .inl (fun i9 => iI ((cpyI NW TE 0 (19 * p) 19) i9)))), (mge, .inl (k4 0, 288, .inl (fun i9 => iI (GE i9)))), (mus, .inl (k4 0, 288, .inl (fun i9 => iI (US i9)))), (mco, .inl (k4 0, 48, .inl (fun i9 => iI ((up CO p bc) i9)))), (mfl, .inl (k4 0, 2304, .inl (fun i9 => iI ((cpyI (CV (fun x0 => GE (48 * x0 + p)) (fun x0 => US (48 * x0 + p)) NW bc) FL 0 (48 * p) 48) i9)))), (mba, .inl (k4 1, 6, .inr (.inl (fun i9 => lI ((bookB BA (CV (fun x0 => GE (48 * x0 + p)) (fun x0 => US (48 * x0 + p)) NW bc) 1 n) i9)))))] H locs := G
  refine z_aload_n E hl 0 rfl dX5_close__78 rfl ?_
  refine kg_X5_108 E G 0 rfl rfl dX5_close__79 ?_
  exact z_iret (w' := [(mo, .inr (5, [.int (iI (0)), .int (iI (((n : Nat) : Int))), .ref mnw, .ref mte, .ref mge, .ref mus, .int (iI (((p + 1 : Nat) : Int))), .int (iI (((st : Nat) : Int))), .int (iI (cc)), .int (iI (CAft (fun x0 => GE (48 * x0 + p)) (fun x0 => US (48 * x0 + p)) NW bc)), .ref mco, .ref mfl, .ref mba, .ref mdu, .long (lI (pot + mP NW (CV (fun x0 => GE (48 * x0 + p)) (fun x0 => US (48 * x0 + p)) NW bc) 1 n)), .long (lI (gr + mG NW (CV (fun x0 => GE (48 * x0 + p)) (fun x0 => US (48 * x0 + p)) NW bc) 1 n)), .long (lI (bk)), .int (iI (betW (fun x0 => GE (48 * x0 + p)) (fun x0 => US (48 * x0 + p)))), .int (iI (CAft (fun x0 => GE (48 * x0 + p)) (fun x0 => US (48 * x0 + p)) NW bc))])), (mnw, .inl (k4 0, 19, .inl (fun i9 => iI (NW i9)))), (mte, .inl (k4 0, 912, .inl (fun i9 => iI ((cpyI NW TE 0 (19 * p) 19) i9)))), (mge, .inl (k4 0, 288, .inl (fun i9 => iI (GE i9)))), (mus, .inl (k4 0, 288, .inl (fun i9 => iI (US i9)))), (mco, .inl (k4 0, 48, .inl (fun i9 => iI ((up CO p bc) i9)))), (mfl, .inl (k4 0, 2304, .inl (fun i9 => iI ((cpyI (CV (fun x0 => GE (48 * x0 + p)) (fun x0 => US (48 * x0 + p)) NW bc) FL 0 (48 * p) 48) i9)))), (mba, .inl (k4 1, 6, .inr (.inl (fun i9 => lI ((bookB BA (CV (fun x0 => GE (48 * x0 + p)) (fun x0 => US (48 * x0 + p)) NW bc) 1 n) i9)))))]) (v := betW (fun x0 => GE (48 * x0 + p)) (fun x0 => US (48 * x0 + p))) E hr hlocks G dX5_close__82 (by omega) (by omega) (zx0 rfl) ⟨rfl, rfl⟩

def q_c_X5_close__0 (k4 : Nat → ClassId) (mo mnw mte mge mus mco mfl mba mdu : Nat) (th : Int) (n p st : Nat) (cc bc pot gr bk btw bhd : Int) : Option Value → va_W → Prop := (fun (v9 : Option Value) (w9 : va_W) => v9 = some (.int (iI (0))) ∧ w9 = [(mo, .inr (5, [.int (iI (1)), .int (iI (((n : Nat) : Int))), .ref mnw, .ref mte, .ref mge, .ref mus, .int (iI (((p : Nat) : Int))), .int (iI (((st : Nat) : Int))), .int (iI (cc)), .int (iI (bc)), .ref mco, .ref mfl, .ref mba, .ref mdu, .long (lI (pot)), .long (lI (gr)), .long (lI (bk)), .int (iI (btw)), .int (iI (bhd))]))])
set_option maxHeartbeats 4000000 in
set_option maxRecDepth 100000 in
theorem c_X5_close__0 (l : Launch) (D : va_G) (k4 : Nat → ClassId) (mo mnw mte mge mus mco mfl mba mdu : Nat) (th : Int) (n p st : Nat) (cc bc pot gr bk btw bhd : Int) (hn : n ≤ 6) (hq : p = 48 ∨ n = 0) (hp48 : p ≤ 48) : zC l yX5_close_ (zW yX5_close_ cX5_close_ 1 (some .int)) ({ frames := 1, cells := 0, slots := 0, locals := 21 } : Room) D k4 [.ref mo] [(mo, .inr (5, [.int (iI (th)), .int (iI (((n : Nat) : Int))), .ref mnw, .ref mte, .ref mge, .ref mus, .int (iI (((p : Nat) : Int))), .int (iI (((st : Nat) : Int))), .int (iI (cc)), .int (iI (bc)), .ref mco, .ref mfl, .ref mba, .ref mdu, .long (lI (pot)), .long (lI (gr)), .long (lI (bk)), .int (iI (btw)), .int (iI (bhd))]))] (0) (0) (q_c_X5_close__0 k4 mo mnw mte mge mus mco mfl mba mdu th n p st cc bc pot gr bk btw bhd) := by
  refine zC_of (cc := cX5_close_) (by decide) (Nat.le_of_ble_eq_true rfl) (fun pp ee ss mm bl me co AA H locs ls E hr hlocks hin G hl => ?_)
  have hl : lv_has ls 1 [(0, .ref mo)] := hl
  refine z_aload_n E hl 0 rfl dX5_close__0 rfl ?_
  refine z_iconst E dX5_close__1 ?_
  refine kp_X5_35 E G 0 rfl (Nat.le_of_ble_eq_true rfl) dX5_close__2 (fun H locs G => ?_)
  have G : zG D AA ss.heap [(mo, .inr (5, [.int (iI (0)), .int (iI (((n : Nat) : Int))), .ref mnw, .ref mte, .ref mge, .ref mus, .int (iI (((p : Nat) : Int))), .int (iI (((st : Nat) : Int))), .int (iI (cc)), .int (iI (bc)), .ref mco, .ref mfl, .ref mba, .ref mdu, .long (lI (pot)), .long (lI (gr)), .long (lI (bk)), .int (iI (btw)), .int (iI (bhd))]))] H locs := G
  refine z_aload_n E hl 0 rfl dX5_close__5 rfl ?_
  refine kg_X5_48 E G 0 rfl rfl dX5_close__6 ?_
  refine z_bipush E dX5_close__9 (by decide) ?_
  refine z_icmp_eq (tgt := 21) E dX5_close__11 (by decide) ⟨by omega, by omega⟩ (by decide) (fun c_11 => ?_) (fun c_11 => ?_)
  · skip
    refine z_aload_n E hl 0 rfl dX5_close__21 rfl ?_
    refine z_iconst E dX5_close__22 ?_
    refine z_callV E G hl.1 (c_X5_no l D k4 mo mnw mte mge mus mco mfl mba mdu 0 n p st cc bc pot gr bk btw bhd 1 ) kV_X5_51 ⟨rfl, rfl, Nat.le_of_ble_eq_true rfl, Nat.le_of_ble_eq_true rfl⟩ [0] rfl (by decide) 0 5 rfl rfl rfl rfl rfl (Nat.le_of_ble_eq_true rfl) dX5_close__23 ⟨(by first | exact Nat.le_of_ble_eq_true rfl | omega | (show _ ≤ (0); omega)), (by first | exact Nat.le_of_ble_eq_true rfl | omega | (show _ ≤ (0); omega))⟩ (fun v9 w9 H locs hq G => ?_)
    obtain ⟨rfl, rfl⟩ := hq
    refine W.eq (g2 := F0 mm 26 ls [.int (iI (0))]) rfl ?_
    have G : zG D AA ss.heap [(mo, .inr (5, [.int (iI (1)), .int (iI (((n : Nat) : Int))), .ref mnw, .ref mte, .ref mge, .ref mus, .int (iI (((p : Nat) : Int))), .int (iI (((st : Nat) : Int))), .int (iI (cc)), .int (iI (bc)), .ref mco, .ref mfl, .ref mba, .ref mdu, .long (lI (pot)), .long (lI (gr)), .long (lI (bk)), .int (iI (btw)), .int (iI (bhd))]))] H locs := G
    exact z_iret (w' := [(mo, .inr (5, [.int (iI (1)), .int (iI (((n : Nat) : Int))), .ref mnw, .ref mte, .ref mge, .ref mus, .int (iI (((p : Nat) : Int))), .int (iI (((st : Nat) : Int))), .int (iI (cc)), .int (iI (bc)), .ref mco, .ref mfl, .ref mba, .ref mdu, .long (lI (pot)), .long (lI (gr)), .long (lI (bk)), .int (iI (btw)), .int (iI (bhd))]))]) (v := 0) E hr hlocks G dX5_close__26 (by omega) (by omega) (zx0 rfl) ⟨rfl, rfl⟩
  · skip
    refine z_aload_n E hl 0 rfl dX5_close__14 rfl ?_
    refine kg_X5_39 E G 0 rfl rfl dX5_close__15 ?_
    refine z_if_ne (tgt := 27) E dX5_close__18 (by decide) ⟨by omega, by omega⟩ (fun c_18 => absurd c_18 (by omega)) (fun c_18 => ?_)
    refine z_aload_n E hl 0 rfl dX5_close__21 rfl ?_
    refine z_iconst E dX5_close__22 ?_
    refine z_callV E G hl.1 (c_X5_no l D k4 mo mnw mte mge mus mco mfl mba mdu 0 n p st cc bc pot gr bk btw bhd 1 ) kV_X5_51 ⟨rfl, rfl, Nat.le_of_ble_eq_true rfl, Nat.le_of_ble_eq_true rfl⟩ [0] rfl (by decide) 0 5 rfl rfl rfl rfl rfl (Nat.le_of_ble_eq_true rfl) dX5_close__23 ⟨(by first | exact Nat.le_of_ble_eq_true rfl | omega | (show _ ≤ (0); omega)), (by first | exact Nat.le_of_ble_eq_true rfl | omega | (show _ ≤ (0); omega))⟩ (fun v9 w9 H locs hq G => ?_)
    obtain ⟨rfl, rfl⟩ := hq
    refine W.eq (g2 := F0 mm 26 ls [.int (iI (0))]) rfl ?_
    have G : zG D AA ss.heap [(mo, .inr (5, [.int (iI (1)), .int (iI (((n : Nat) : Int))), .ref mnw, .ref mte, .ref mge, .ref mus, .int (iI (((p : Nat) : Int))), .int (iI (((st : Nat) : Int))), .int (iI (cc)), .int (iI (bc)), .ref mco, .ref mfl, .ref mba, .ref mdu, .long (lI (pot)), .long (lI (gr)), .long (lI (bk)), .int (iI (btw)), .int (iI (bhd))]))] H locs := G
    exact z_iret (w' := [(mo, .inr (5, [.int (iI (1)), .int (iI (((n : Nat) : Int))), .ref mnw, .ref mte, .ref mge, .ref mus, .int (iI (((p : Nat) : Int))), .int (iI (((st : Nat) : Int))), .int (iI (cc)), .int (iI (bc)), .ref mco, .ref mfl, .ref mba, .ref mdu, .long (lI (pot)), .long (lI (gr)), .long (lI (bk)), .int (iI (btw)), .int (iI (bhd))]))]) (v := 0) E hr hlocks G dX5_close__26 (by omega) (by omega) (zx0 rfl) ⟨rfl, rfl⟩

def q_c_X5_correct (k4 : Nat → ClassId) (mo mnw mte mge mus mco mfl mba mdu : Nat) (th : Int) (n p st : Nat) (cc bc pot gr bk btw bhd : Int) (m k : Nat) (a b : Int) (NW TE GE US CO FL BA : Nat → Int) : Option Value → va_W → Prop := (fun (v9 : Option Value) (w9 : va_W) => ∃ (Y : mSt) (b1 b2 : Int), v9 = some (.long (lI (Y.2.2.1 m - BA m))) ∧ w9 = [(mo, .inr (5, [.int (iI (0)), .int (iI (((n : Nat) : Int))), .ref mnw, .ref mte, .ref mge, .ref mus, .int (iI (((p : Nat) : Int))), .int (iI (((st : Nat) : Int))), .int (iI (cc + 1)), .int (iI (min Y.2.2.2.2.2 (NW 4))), .ref mco, .ref mfl, .ref mba, .ref mdu, .long (lI (Y.2.2.2.1)), .long (lI (Y.2.2.2.2.1)), .long (lI (bk)), .int (iI (b1)), .int (iI (b2))])), (mnw, .inl (k4 0, 19, .inl (fun i9 => iI (NW i9)))), (mte, .inl (k4 0, 912, .inl (fun i9 => iI (TE i9)))), (mge, .inl (k4 0, 288, .inl (fun i9 => iI ((up GE (48 * m + k) a) i9)))), (mus, .inl (k4 0, 288, .inl (fun i9 => iI ((up US (48 * m + k) b) i9)))), (mco, .inl (k4 0, 48, .inl (fun i9 => iI (Y.1 i9)))), (mfl, .inl (k4 0, 2304, .inl (fun i9 => iI (Y.2.1 i9)))), (mba, .inl (k4 1, 6, .inr (.inl (fun i9 => lI (Y.2.2.1 i9)))))] ∧ Y = reM TE (up GE (48 * m + k) a) (up US (48 * m + k) b) n k (p - k) (CO, FL, BA, pot, gr, CO k))
set_option maxHeartbeats 4000000 in
set_option maxRecDepth 100000 in
theorem c_X5_correct (l : Launch) (D : va_G) (k4 : Nat → ClassId) (mo mnw mte mge mus mco mfl mba mdu : Nat) (th : Int) (n p st : Nat) (cc bc pot gr bk btw bhd : Int) (m k : Nat) (a b : Int) (NW TE GE US CO FL BA : Nat → Int) (hn : n ≤ 6) (hm : m < n) (hk : k < 48) (ha : 0 ≤ a ∧ a ≤ 5000) (hb : 0 ≤ b ∧ b ≤ 5000) (hkp : k < p) (hst : st ≤ k) (hp48 : p ≤ 48) (ht : tOK NW) (hA : rowsOK n GE US) (hT : ∀ j, j < p → tOK (fun i => TE (19 * j + i)) ∧ flOK (fun i => FL (48 * j + i)) ∧ 0 ≤ CO j ∧ CO j ≤ 20000) : zC l yX5_correct (zW yX5_correct cX5_correct 9 (some .long)) ({ frames := 6, cells := sX (up GE (48 * m + k) a) (up US (48 * m + k) b) k (p - k), slots := 11 * sX (up GE (48 * m + k) a) (up US (48 * m + k) b) k (p - k), locals := 169 } : Room) D k4 [.ref mo, .int (iI (((m : Nat) : Int))), .int (iI (((k : Nat) : Int))), .int (iI (a)), .int (iI (b))] [(mo, .inr (5, [.int (iI (th)), .int (iI (((n : Nat) : Int))), .ref mnw, .ref mte, .ref mge, .ref mus, .int (iI (((p : Nat) : Int))), .int (iI (((st : Nat) : Int))), .int (iI (cc)), .int (iI (bc)), .ref mco, .ref mfl, .ref mba, .ref mdu, .long (lI (pot)), .long (lI (gr)), .long (lI (bk)), .int (iI (btw)), .int (iI (bhd))])), (mnw, .inl (k4 0, 19, .inl (fun i9 => iI (NW i9)))), (mte, .inl (k4 0, 912, .inl (fun i9 => iI (TE i9)))), (mge, .inl (k4 0, 288, .inl (fun i9 => iI (GE i9)))), (mus, .inl (k4 0, 288, .inl (fun i9 => iI (US i9)))), (mco, .inl (k4 0, 48, .inl (fun i9 => iI (CO i9)))), (mfl, .inl (k4 0, 2304, .inl (fun i9 => iI (FL i9)))), (mba, .inl (k4 1, 6, .inr (.inl (fun i9 => lI (BA i9)))))] (sX (up GE (48 * m + k) a) (up US (48 * m + k) b) k (p - k)) (11 * sX (up GE (48 * m + k) a) (up US (48 * m + k) b) k (p - k)) (q_c_X5_correct k4 mo mnw mte mge mus mco mfl mba mdu th n p st cc bc pot gr bk btw bhd m k a b NW TE GE US CO FL BA) := by
  refine zC_of (cc := cX5_correct) (by decide) (Nat.le_of_ble_eq_true rfl) (fun pp ee ss mm bl me co AA H locs ls E hr hlocks hin G hl => ?_)
  have hl : lv_has ls 9 [(0, .ref mo), (1, .int (iI (((m : Nat) : Int)))), (2, .int (iI (((k : Nat) : Int)))), (3, .int (iI (a))), (4, .int (iI (b)))] := hl
  have hA2 := rows_set hA hm hn hk ha hb
  have z4 := ht.2.2.2.2.1
  have hk0 := (hT k hkp).2.2
  refine z_aload_n E hl 0 rfl dX5_correct_0 rfl ?_
  refine z_aload_n E hl 0 rfl dX5_correct_1 rfl ?_
  refine z_iload_n E hl 1 rfl dX5_correct_2 rfl ?_
  refine z_callV E G hl.1 (c_X5_isMember l D k4 mo mnw mte mge mus mco mfl mba mdu th n p st cc bc pot gr bk btw bhd (((m : Nat) : Int)) (by omega) ⟨by omega, by omega⟩ hn) kV_X5_55 ⟨rfl, rfl, Nat.le_of_ble_eq_true rfl, Nat.le_of_ble_eq_true rfl⟩ [0] rfl (by decide) 0 5 rfl rfl rfl rfl rfl (Nat.le_of_ble_eq_true rfl) dX5_correct_3 ⟨(by first | exact Nat.le_of_ble_eq_true rfl | omega | (show _ ≤ (sX (up GE (48 * m + k) a) (up US (48 * m + k) b) k (p - k)); omega)), (by first | exact Nat.le_of_ble_eq_true rfl | omega | (show _ ≤ (11 * sX (up GE (48 * m + k) a) (up US (48 * m + k) b) k (p - k)); omega))⟩ (fun v9 w9 H locs hq G => ?_)
  obtain ⟨rfl, rfl⟩ := hq
  refine W.eq (g2 := F0 mm 6 ls [.int (iI (1)), .ref mo]) rfl ?_
  have G : zG D AA ss.heap [(mo, .inr (5, [.int (iI (th)), .int (iI (((n : Nat) : Int))), .ref mnw, .ref mte, .ref mge, .ref mus, .int (iI (((p : Nat) : Int))), .int (iI (((st : Nat) : Int))), .int (iI (cc)), .int (iI (bc)), .ref mco, .ref mfl, .ref mba, .ref mdu, .long (lI (pot)), .long (lI (gr)), .long (lI (bk)), .int (iI (btw)), .int (iI (bhd))])), (mnw, .inl (k4 0, 19, .inl (fun i9 => iI (NW i9)))), (mte, .inl (k4 0, 912, .inl (fun i9 => iI (TE i9)))), (mge, .inl (k4 0, 288, .inl (fun i9 => iI (GE i9)))), (mus, .inl (k4 0, 288, .inl (fun i9 => iI (US i9)))), (mco, .inl (k4 0, 48, .inl (fun i9 => iI (CO i9)))), (mfl, .inl (k4 0, 2304, .inl (fun i9 => iI (FL i9)))), (mba, .inl (k4 1, 6, .inr (.inl (fun i9 => lI (BA i9)))))] H locs := G
  refine z_if_eq (tgt := 16) E dX5_correct_6 (by decide) (by decide) (fun c_6 => absurd c_6 (by decide)) (fun c_6 => ?_)
  refine z_iload_n E hl 2 rfl dX5_correct_9 rfl ?_
  refine z_callS E G hl.1 (c_X5_isSlot l D k4 (((k : Nat) : Int)) (by omega) ⟨by omega, by omega⟩) kS_X5_147 ⟨rfl, rfl, Nat.le_of_ble_eq_true rfl, Nat.le_of_ble_eq_true rfl⟩ [] rfl (by decide) rfl rfl (Nat.le_of_ble_eq_true rfl) dX5_correct_10 ⟨(by first | exact Nat.le_of_ble_eq_true rfl | omega | (show _ ≤ (sX (up GE (48 * m + k) a) (up US (48 * m + k) b) k (p - k)); omega)), (by first | exact Nat.le_of_ble_eq_true rfl | omega | (show _ ≤ (11 * sX (up GE (48 * m + k) a) (up US (48 * m + k) b) k (p - k)); omega))⟩ (fun v9 w9 H locs hq G => ?_)
  obtain ⟨rfl, rfl⟩ := hq
  refine W.eq (g2 := F0 mm 13 ls [.int (iI (1)), .ref mo]) rfl ?_
  have G : zG D AA ss.heap [(mo, .inr (5, [.int (iI (th)), .int (iI (((n : Nat) : Int))), .ref mnw, .ref mte, .ref mge, .ref mus, .int (iI (((p : Nat) : Int))), .int (iI (((st : Nat) : Int))), .int (iI (cc)), .int (iI (bc)), .ref mco, .ref mfl, .ref mba, .ref mdu, .long (lI (pot)), .long (lI (gr)), .long (lI (bk)), .int (iI (btw)), .int (iI (bhd))])), (mnw, .inl (k4 0, 19, .inl (fun i9 => iI (NW i9)))), (mte, .inl (k4 0, 912, .inl (fun i9 => iI (TE i9)))), (mge, .inl (k4 0, 288, .inl (fun i9 => iI (GE i9)))), (mus, .inl (k4 0, 288, .inl (fun i9 => iI (US i9)))), (mco, .inl (k4 0, 48, .inl (fun i9 => iI (CO i9)))), (mfl, .inl (k4 0, 2304, .inl (fun i9 => iI (FL i9)))), (mba, .inl (k4 1, 6, .inr (.inl (fun i9 => lI (BA i9)))))] H locs := G
  refine z_if_ne (tgt := 20) E dX5_correct_13 (by decide) (by decide) (fun c_13 => ?_) (fun c_13 => absurd c_13 (by decide))
  refine z_iload_n E hl 3 rfl dX5_correct_20 rfl ?_
  refine z_i2l E dX5_correct_21 ⟨by omega, by omega⟩ ?_
  refine z_lconst E (z := 0) dX5_correct_22 (by decide) ?_
  refine z_ldc2 E (n := (5000)) zw_191 (by decide +kernel) dX5_correct_23 ?_
  refine z_callS E G hl.1 (c_X5_isIn l D k4 a 0 5000 (by omega) ⟨⟨by omega, by omega⟩, ⟨by omega, by omega⟩, ⟨by omega, by omega⟩⟩) kS_X5_42 ⟨rfl, rfl, Nat.le_of_ble_eq_true rfl, Nat.le_of_ble_eq_true rfl⟩ [] rfl (by decide) rfl rfl (Nat.le_of_ble_eq_true rfl) dX5_correct_26 ⟨(by first | exact Nat.le_of_ble_eq_true rfl | omega | (show _ ≤ (sX (up GE (48 * m + k) a) (up US (48 * m + k) b) k (p - k)); omega)), (by first | exact Nat.le_of_ble_eq_true rfl | omega | (show _ ≤ (11 * sX (up GE (48 * m + k) a) (up US (48 * m + k) b) k (p - k)); omega))⟩ (fun v9 w9 H locs hq G => ?_)
  obtain ⟨rfl, rfl⟩ := hq
  refine W.eq (g2 := F0 mm 29 ls [.int (iI (1)), .ref mo]) rfl ?_
  have G : zG D AA ss.heap [(mo, .inr (5, [.int (iI (th)), .int (iI (((n : Nat) : Int))), .ref mnw, .ref mte, .ref mge, .ref mus, .int (iI (((p : Nat) : Int))), .int (iI (((st : Nat) : Int))), .int (iI (cc)), .int (iI (bc)), .ref mco, .ref mfl, .ref mba, .ref mdu, .long (lI (pot)), .long (lI (gr)), .long (lI (bk)), .int (iI (btw)), .int (iI (bhd))])), (mnw, .inl (k4 0, 19, .inl (fun i9 => iI (NW i9)))), (mte, .inl (k4 0, 912, .inl (fun i9 => iI (TE i9)))), (mge, .inl (k4 0, 288, .inl (fun i9 => iI (GE i9)))), (mus, .inl (k4 0, 288, .inl (fun i9 => iI (US i9)))), (mco, .inl (k4 0, 48, .inl (fun i9 => iI (CO i9)))), (mfl, .inl (k4 0, 2304, .inl (fun i9 => iI (FL i9)))), (mba, .inl (k4 1, 6, .inr (.inl (fun i9 => lI (BA i9)))))] H locs := G
  refine z_if_eq (tgt := 45) E dX5_correct_29 (by decide) (by decide) (fun c_29 => absurd c_29 (by decide)) (fun c_29 => ?_)
  refine z_iload E hl 4 rfl dX5_correct_32 ?_
  refine z_i2l E dX5_correct_34 ⟨by omega, by omega⟩ ?_
  refine z_lconst E (z := 0) dX5_correct_35 (by decide) ?_
  refine z_ldc2 E (n := (5000)) zw_191 (by decide +kernel) dX5_correct_36 ?_
  refine z_callS E G hl.1 (c_X5_isIn l D k4 b 0 5000 (by omega) ⟨⟨by omega, by omega⟩, ⟨by omega, by omega⟩, ⟨by omega, by omega⟩⟩) kS_X5_42 ⟨rfl, rfl, Nat.le_of_ble_eq_true rfl, Nat.le_of_ble_eq_true rfl⟩ [] rfl (by decide) rfl rfl (Nat.le_of_ble_eq_true rfl) dX5_correct_39 ⟨(by first | exact Nat.le_of_ble_eq_true rfl | omega | (show _ ≤ (sX (up GE (48 * m + k) a) (up US (48 * m + k) b) k (p - k)); omega)), (by first | exact Nat.le_of_ble_eq_true rfl | omega | (show _ ≤ (11 * sX (up GE (48 * m + k) a) (up US (48 * m + k) b) k (p - k)); omega))⟩ (fun v9 w9 H locs hq G => ?_)
  obtain ⟨rfl, rfl⟩ := hq
  refine W.eq (g2 := F0 mm 42 ls [.int (iI (1)), .ref mo]) rfl ?_
  have G : zG D AA ss.heap [(mo, .inr (5, [.int (iI (th)), .int (iI (((n : Nat) : Int))), .ref mnw, .ref mte, .ref mge, .ref mus, .int (iI (((p : Nat) : Int))), .int (iI (((st : Nat) : Int))), .int (iI (cc)), .int (iI (bc)), .ref mco, .ref mfl, .ref mba, .ref mdu, .long (lI (pot)), .long (lI (gr)), .long (lI (bk)), .int (iI (btw)), .int (iI (bhd))])), (mnw, .inl (k4 0, 19, .inl (fun i9 => iI (NW i9)))), (mte, .inl (k4 0, 912, .inl (fun i9 => iI (TE i9)))), (mge, .inl (k4 0, 288, .inl (fun i9 => iI (GE i9)))), (mus, .inl (k4 0, 288, .inl (fun i9 => iI (US i9)))), (mco, .inl (k4 0, 48, .inl (fun i9 => iI (CO i9)))), (mfl, .inl (k4 0, 2304, .inl (fun i9 => iI (FL i9)))), (mba, .inl (k4 1, 6, .inr (.inl (fun i9 => lI (BA i9)))))] H locs := G
  refine z_if_ne (tgt := 49) E dX5_correct_42 (by decide) (by decide) (fun c_42 => ?_) (fun c_42 => absurd c_42 (by decide))
  refine z_iload_n E hl 2 rfl dX5_correct_49 rfl ?_
  refine z_aload_n E hl 0 rfl dX5_correct_50 rfl ?_
  refine kg_X5_48 E G 0 rfl rfl dX5_correct_51 ?_
  refine z_icmp_ge (tgt := 65) E dX5_correct_54 (by decide) ⟨by omega, by omega⟩ ⟨by omega, by omega⟩ (fun c_54 => absurd c_54 (by omega)) (fun c_54 => ?_)
  refine z_iload_n E hl 2 rfl dX5_correct_57 rfl ?_
  refine z_aload_n E hl 0 rfl dX5_correct_58 rfl ?_
  refine kg_X5_153 E G 0 rfl rfl dX5_correct_59 ?_
  refine z_icmp_ge (tgt := 69) E dX5_correct_62 (by decide) ⟨by omega, by omega⟩ ⟨by omega, by omega⟩ (fun c_62 => ?_) (fun c_62 => absurd c_62 (by omega))
  refine z_iconst E dX5_correct_69 ?_
  refine kp_X5_35 E G 0 rfl (Nat.le_of_ble_eq_true rfl) dX5_correct_70 (fun H locs G => ?_)
  have G : zG D AA ss.heap [(mo, .inr (5, [.int (iI (0)), .int (iI (((n : Nat) : Int))), .ref mnw, .ref mte, .ref mge, .ref mus, .int (iI (((p : Nat) : Int))), .int (iI (((st : Nat) : Int))), .int (iI (cc)), .int (iI (bc)), .ref mco, .ref mfl, .ref mba, .ref mdu, .long (lI (pot)), .long (lI (gr)), .long (lI (bk)), .int (iI (btw)), .int (iI (bhd))])), (mnw, .inl (k4 0, 19, .inl (fun i9 => iI (NW i9)))), (mte, .inl (k4 0, 912, .inl (fun i9 => iI (TE i9)))), (mge, .inl (k4 0, 288, .inl (fun i9 => iI (GE i9)))), (mus, .inl (k4 0, 288, .inl (fun i9 => iI (US i9)))), (mco, .inl (k4 0, 48, .inl (fun i9 => iI (CO i9)))), (mfl, .inl (k4 0, 2304, .inl (fun i9 => iI (FL i9)))), (mba, .inl (k4 1, 6, .inr (.inl (fun i9 => lI (BA i9)))))] H locs := G
  refine z_aload_n E hl 0 rfl dX5_correct_73 rfl ?_
  refine kg_X5_35 E G 0 rfl rfl dX5_correct_74 ?_
  refine z_if_eq (tgt := 82) E dX5_correct_77 (by decide) (by decide) (fun c_77 => ?_) (fun c_77 => absurd c_77 (by decide))
  refine z_aload_n E hl 0 rfl dX5_correct_82 rfl ?_
  refine kg_X5_28 E G 0 rfl rfl dX5_correct_83 ?_
  refine z_iload_n E hl 1 rfl dX5_correct_86 rfl ?_
  refine z_lald E G 7 rfl (m) rfl (by omega) (by decide) dX5_correct_87 ?_
  refine z_lstore E [(5, .long (lI (BA m))), (0, .ref mo), (1, .int (iI (((m : Nat) : Int)))), (2, .int (iI (((k : Nat) : Int)))), (3, .int (iI (a))), (4, .int (iI (b)))] dX5_correct_88 hl (by decide) rfl (fun ls hl => ?_)
  refine z_aload_n E hl 1 rfl dX5_correct_90 rfl ?_
  refine kg_X5_16 E G 0 rfl rfl dX5_correct_91 ?_
  refine z_bipush E dX5_correct_94 (by decide) ?_
  refine z_iload_n E hl 2 rfl dX5_correct_96 rfl ?_
  refine z_imul E dX5_correct_97 ?_
  refine z_iload_n E hl 3 rfl dX5_correct_98 rfl ?_
  refine z_iadd E dX5_correct_99 ?_
  refine z_iload_n E hl 4 rfl dX5_correct_100 rfl ?_
  refine z_iast E G 3 rfl (48 * m + k) (by omega) (by omega) (by decide) dX5_correct_101 (fun H locs G => ?_)
  have G : zG D AA ss.heap [(mo, .inr (5, [.int (iI (0)), .int (iI (((n : Nat) : Int))), .ref mnw, .ref mte, .ref mge, .ref mus, .int (iI (((p : Nat) : Int))), .int (iI (((st : Nat) : Int))), .int (iI (cc)), .int (iI (bc)), .ref mco, .ref mfl, .ref mba, .ref mdu, .long (lI (pot)), .long (lI (gr)), .long (lI (bk)), .int (iI (btw)), .int (iI (bhd))])), (mnw, .inl (k4 0, 19, .inl (fun i9 => iI (NW i9)))), (mte, .inl (k4 0, 912, .inl (fun i9 => iI (TE i9)))), (mge, .inl (k4 0, 288, .inl (fun i9 => iI ((up GE (48 * m + k) (a)) i9)))), (mus, .inl (k4 0, 288, .inl (fun i9 => iI (US i9)))), (mco, .inl (k4 0, 48, .inl (fun i9 => iI (CO i9)))), (mfl, .inl (k4 0, 2304, .inl (fun i9 => iI (FL i9)))), (mba, .inl (k4 1, 6, .inr (.inl (fun i9 => lI (BA i9)))))] H locs := G
  refine z_aload_n E hl 1 rfl dX5_correct_102 rfl ?_
  refine kg_X5_19 E G 0 rfl rfl dX5_correct_103 ?_
  refine z_bipush E dX5_correct_106 (by decide) ?_
  refine z_iload_n E hl 2 rfl dX5_correct_108 rfl ?_
  refine z_imul E dX5_correct_109 ?_
  refine z_iload_n E hl 3 rfl dX5_correct_110 rfl ?_
  refine z_iadd E dX5_correct_111 ?_
  refine z_iload E hl 5 rfl dX5_correct_112 ?_
  refine z_iast E G 4 rfl (48 * m + k) (by omega) (by omega) (by decide) dX5_correct_114 (fun H locs G => ?_)
  have G : zG D AA ss.heap [(mo, .inr (5, [.int (iI (0)), .int (iI (((n : Nat) : Int))), .ref mnw, .ref mte, .ref mge, .ref mus, .int (iI (((p : Nat) : Int))), .int (iI (((st : Nat) : Int))), .int (iI (cc)), .int (iI (bc)), .ref mco, .ref mfl, .ref mba, .ref mdu, .long (lI (pot)), .long (lI (gr)), .long (lI (bk)), .int (iI (btw)), .int (iI (bhd))])), (mnw, .inl (k4 0, 19, .inl (fun i9 => iI (NW i9)))), (mte, .inl (k4 0, 912, .inl (fun i9 => iI (TE i9)))), (mge, .inl (k4 0, 288, .inl (fun i9 => iI ((up GE (48 * m + k) (a)) i9)))), (mus, .inl (k4 0, 288, .inl (fun i9 => iI ((up US (48 * m + k) (b)) i9)))), (mco, .inl (k4 0, 48, .inl (fun i9 => iI (CO i9)))), (mfl, .inl (k4 0, 2304, .inl (fun i9 => iI (FL i9)))), (mba, .inl (k4 1, 6, .inr (.inl (fun i9 => lI (BA i9)))))] H locs := G
  refine z_aload_n E hl 1 rfl dX5_correct_115 rfl ?_
  refine kg_X5_22 E G 0 rfl rfl dX5_correct_116 ?_
  refine z_iload_n E hl 3 rfl dX5_correct_119 rfl ?_
  refine z_iald E G 5 rfl (k) rfl (by omega) (by decide) dX5_correct_120 ?_
  refine z_istore E [(7, .int (iI (CO k))), (5, .long (lI (BA m))), (0, .ref mo), (1, .int (iI (((m : Nat) : Int)))), (2, .int (iI (((k : Nat) : Int)))), (3, .int (iI (a))), (4, .int (iI (b)))] dX5_correct_121 hl (by decide) rfl (fun ls hl => ?_)
  refine z_iload_n E hl 4 rfl dX5_correct_123 rfl ?_
  refine z_istore E [(8, .int (iI (((k : Nat) : Int)))), (7, .int (iI (CO k))), (5, .long (lI (BA m))), (0, .ref mo), (1, .int (iI (((m : Nat) : Int)))), (2, .int (iI (((k : Nat) : Int)))), (3, .int (iI (a))), (4, .int (iI (b)))] dX5_correct_124 hl (by decide) rfl (fun ls hl => ?_)
  have hp126_1 : ∀ (n9 : Nat) (i j : Nat) (Y : mSt) (b1 b2 : Int) (H : Heap) (locs : List Loc) (ls : Array Slot), (p - j < n9) → (j = k + i) → (j ≤ p) → (Y = reM TE (up GE (48 * m + k) a) (up US (48 * m + k) b) n k i (CO, FL, BA, pot, gr, CO k)) → (0 ≤ Y.2.2.2.2.2 ∧ Y.2.2.2.2.2 ≤ 20000) → (∀ x, 48 * j ≤ x → Y.2.1 x = FL x) → zG D AA ss.heap [(mo, .inr (5, [.int (iI (0)), .int (iI (((n : Nat) : Int))), .ref mnw, .ref mte, .ref mge, .ref mus, .int (iI (((p : Nat) : Int))), .int (iI (((st : Nat) : Int))), .int (iI (cc)), .int (iI (bc)), .ref mco, .ref mfl, .ref mba, .ref mdu, .long (lI (Y.2.2.2.1)), .long (lI (Y.2.2.2.2.1)), .long (lI (bk)), .int (iI (b1)), .int (iI (b2))])), (mnw, .inl (k4 0, 19, .inl (fun i9 => iI (NW i9)))), (mte, .inl (k4 0, 912, .inl (fun i9 => iI (TE i9)))), (mge, .inl (k4 0, 288, .inl (fun i9 => iI ((up GE (48 * m + k) a) i9)))), (mus, .inl (k4 0, 288, .inl (fun i9 => iI ((up US (48 * m + k) b) i9)))), (mco, .inl (k4 0, 48, .inl (fun i9 => iI (Y.1 i9)))), (mfl, .inl (k4 0, 2304, .inl (fun i9 => iI (Y.2.1 i9)))), (mba, .inl (k4 1, 6, .inr (.inl (fun i9 => lI (Y.2.2.1 i9)))))] H locs → lv_has ls 9 [(0, .ref mo), (1, .int (iI (((m : Nat) : Int)))), (2, .int (iI (((k : Nat) : Int)))), (5, .long (lI (BA m))), (7, .int (iI (Y.2.2.2.2.2))), (8, .int (iI (((j : Nat) : Int))))] → W pp l ee ({ frames := 6, cells := sX (up GE (48 * m + k) a) (up US (48 * m + k) b) k (p - k), slots := 11 * sX (up GE (48 * m + k) a) (up US (48 * m + k) b) k (p - k), locals := 169 } : Room) ss mm ([.ref mo, .int (iI (((m : Nat) : Int))), .int (iI (((k : Nat) : Int))), .int (iI (a)), .int (iI (b))] : List Value).toArray bl me co H locs (sX (up GE (48 * m + k) a) (up US (48 * m + k) b) k (i)) (11 * sX (up GE (48 * m + k) a) (up US (48 * m + k) b) k (i)) (MQ bl (zQ D [(mo, .inr (5, [.int (iI (th)), .int (iI (((n : Nat) : Int))), .ref mnw, .ref mte, .ref mge, .ref mus, .int (iI (((p : Nat) : Int))), .int (iI (((st : Nat) : Int))), .int (iI (cc)), .int (iI (bc)), .ref mco, .ref mfl, .ref mba, .ref mdu, .long (lI (pot)), .long (lI (gr)), .long (lI (bk)), .int (iI (btw)), .int (iI (bhd))])), (mnw, .inl (k4 0, 19, .inl (fun i9 => iI (NW i9)))), (mte, .inl (k4 0, 912, .inl (fun i9 => iI (TE i9)))), (mge, .inl (k4 0, 288, .inl (fun i9 => iI (GE i9)))), (mus, .inl (k4 0, 288, .inl (fun i9 => iI (US i9)))), (mco, .inl (k4 0, 48, .inl (fun i9 => iI (CO i9)))), (mfl, .inl (k4 0, 2304, .inl (fun i9 => iI (FL i9)))), (mba, .inl (k4 1, 6, .inr (.inl (fun i9 => lI (BA i9)))))] AA (q_c_X5_correct k4 mo mnw mte mge mus mco mfl mba mdu th n p st cc bc pot gr bk btw bhd m k a b NW TE GE US CO FL BA)) ([.ref mo, .int (iI (((m : Nat) : Int))), .int (iI (((k : Nat) : Int))), .int (iI (a)), .int (iI (b))] : List Value).toArray ss (sX (up GE (48 * m + k) a) (up US (48 * m + k) b) k (p - k)) (11 * sX (up GE (48 * m + k) a) (up US (48 * m + k) b) k (p - k)) AA) (F0 mm 126 ls []) := by
    intro n9
    induction n9 with
    | zero => intro i j Y b1 b2 H locs ls hn9 hji hjp hY hb9 hF G hl; exact absurd hn9 (by omega)
    | succ n9 ih =>
      intro i j Y b1 b2 H locs ls hn9 hji hjp hY hb9 hF G hl
      have ih126_1 := @ih
      refine z_iload E hl 5 rfl dX5_correct_126 ?_
      refine z_aload_n E hl 0 rfl dX5_correct_128 rfl ?_
      refine kg_X5_48 E G 0 rfl rfl dX5_correct_129 ?_
      refine z_icmp_ge (tgt := 162) E dX5_correct_132 (by decide) ⟨by omega, by omega⟩ ⟨by omega, by omega⟩ (fun c_132 => ?_) (fun c_132 => ?_)
      · skip
        have sx2 : sX (up GE (48 * m + k) a) (up US (48 * m + k) b) k (i) ≤ sX (up GE (48 * m + k) a) (up US (48 * m + k) b) k (p - k) := sX_le (by omega)
        refine z_aload_n E hl 0 rfl dX5_correct_162 rfl ?_
        refine z_iload E hl 4 rfl dX5_correct_163 ?_
        refine z_aload_n E hl 0 rfl dX5_correct_165 rfl ?_
        refine kg_X5_9 E G 0 rfl rfl dX5_correct_166 ?_
        refine z_iconst E dX5_correct_169 ?_
        refine z_iald E G 1 rfl (4) rfl (by decide) (by decide) dX5_correct_170 ?_
        refine z_min E hl.1 zw_426 zw_184 zw_183 zw_185 (Nat.le_of_ble_eq_true rfl) (Nat.le_of_ble_eq_true rfl) (by first | exact Nat.le_of_ble_eq_true rfl | omega | (show _ ≤ (sX (up GE (48 * m + k) a) (up US (48 * m + k) b) k (p - k)); omega)) (by first | exact Nat.le_of_ble_eq_true rfl | omega | (show _ ≤ (11 * sX (up GE (48 * m + k) a) (up US (48 * m + k) b) k (p - k)); omega)) ⟨by omega, by omega⟩ ⟨by omega, by omega⟩ dX5_correct_171 ?_
        refine z_eq (y := min Y.2.2.2.2.2 (NW 4)) rfl ?_
        refine kp_X5_69 E G 0 rfl (Nat.le_of_ble_eq_true rfl) dX5_correct_174 (fun H locs G => ?_)
        have G : zG D AA ss.heap [(mo, .inr (5, [.int (iI (0)), .int (iI (((n : Nat) : Int))), .ref mnw, .ref mte, .ref mge, .ref mus, .int (iI (((p : Nat) : Int))), .int (iI (((st : Nat) : Int))), .int (iI (cc)), .int (iI (min Y.2.2.2.2.2 (NW 4))), .ref mco, .ref mfl, .ref mba, .ref mdu, .long (lI (Y.2.2.2.1)), .long (lI (Y.2.2.2.2.1)), .long (lI (bk)), .int (iI (b1)), .int (iI (b2))])), (mnw, .inl (k4 0, 19, .inl (fun i9 => iI (NW i9)))), (mte, .inl (k4 0, 912, .inl (fun i9 => iI (TE i9)))), (mge, .inl (k4 0, 288, .inl (fun i9 => iI ((up GE (48 * m + k) a) i9)))), (mus, .inl (k4 0, 288, .inl (fun i9 => iI ((up US (48 * m + k) b) i9)))), (mco, .inl (k4 0, 48, .inl (fun i9 => iI (Y.1 i9)))), (mfl, .inl (k4 0, 2304, .inl (fun i9 => iI (Y.2.1 i9)))), (mba, .inl (k4 1, 6, .inr (.inl (fun i9 => lI (Y.2.2.1 i9)))))] H locs := G
        refine z_aload_n E hl 0 rfl dX5_correct_177 rfl ?_
        refine z_dup E dX5_correct_178 rfl ?_
        refine kg_X5_156 E G 0 rfl rfl dX5_correct_179 ?_
        refine z_iconst E dX5_correct_182 ?_
        refine z_iadd E dX5_correct_183 ?_
        refine kp_X5_156 E G 0 rfl (Nat.le_of_ble_eq_true rfl) dX5_correct_184 (fun H locs G => ?_)
        have G : zG D AA ss.heap [(mo, .inr (5, [.int (iI (0)), .int (iI (((n : Nat) : Int))), .ref mnw, .ref mte, .ref mge, .ref mus, .int (iI (((p : Nat) : Int))), .int (iI (((st : Nat) : Int))), .int (iI ((cc) + (1))), .int (iI (min Y.2.2.2.2.2 (NW 4))), .ref mco, .ref mfl, .ref mba, .ref mdu, .long (lI (Y.2.2.2.1)), .long (lI (Y.2.2.2.2.1)), .long (lI (bk)), .int (iI (b1)), .int (iI (b2))])), (mnw, .inl (k4 0, 19, .inl (fun i9 => iI (NW i9)))), (mte, .inl (k4 0, 912, .inl (fun i9 => iI (TE i9)))), (mge, .inl (k4 0, 288, .inl (fun i9 => iI ((up GE (48 * m + k) a) i9)))), (mus, .inl (k4 0, 288, .inl (fun i9 => iI ((up US (48 * m + k) b) i9)))), (mco, .inl (k4 0, 48, .inl (fun i9 => iI (Y.1 i9)))), (mfl, .inl (k4 0, 2304, .inl (fun i9 => iI (Y.2.1 i9)))), (mba, .inl (k4 1, 6, .inr (.inl (fun i9 => lI (Y.2.2.1 i9)))))] H locs := G
        refine z_aload_n E hl 0 rfl dX5_correct_187 rfl ?_
        refine kg_X5_28 E G 0 rfl rfl dX5_correct_188 ?_
        refine z_iload_n E hl 1 rfl dX5_correct_191 rfl ?_
        refine z_lald E G 7 rfl (m) rfl (by omega) (by decide) dX5_correct_192 ?_
        refine z_lload E hl 3 rfl dX5_correct_193 ?_
        refine z_lsub E dX5_correct_195 ?_
        refine z_eql (y := Y.2.2.1 m - BA m) rfl ?_
        exact z_lret (w' := [(mo, .inr (5, [.int (iI (0)), .int (iI (((n : Nat) : Int))), .ref mnw, .ref mte, .ref mge, .ref mus, .int (iI (((p : Nat) : Int))), .int (iI (((st : Nat) : Int))), .int (iI (cc + 1)), .int (iI (min Y.2.2.2.2.2 (NW 4))), .ref mco, .ref mfl, .ref mba, .ref mdu, .long (lI (Y.2.2.2.1)), .long (lI (Y.2.2.2.2.1)), .long (lI (bk)), .int (iI (b1)), .int (iI (b2))])), (mnw, .inl (k4 0, 19, .inl (fun i9 => iI (NW i9)))), (mte, .inl (k4 0, 912, .inl (fun i9 => iI (TE i9)))), (mge, .inl (k4 0, 288, .inl (fun i9 => iI ((up GE (48 * m + k) a) i9)))), (mus, .inl (k4 0, 288, .inl (fun i9 => iI ((up US (48 * m + k) b) i9)))), (mco, .inl (k4 0, 48, .inl (fun i9 => iI (Y.1 i9)))), (mfl, .inl (k4 0, 2304, .inl (fun i9 => iI (Y.2.1 i9)))), (mba, .inl (k4 1, 6, .inr (.inl (fun i9 => lI (Y.2.2.1 i9)))))]) (v := Y.2.2.1 m - BA m) E hr hlocks G dX5_correct_196 (by omega) (by omega) (zx0 rfl) ⟨Y, b1, b2, rfl, rfl, by rw [hY]; congr 1; omega⟩
      · skip
        have hTj := hT j (by omega)
        have hAj := hA2 j (by omega)
        have hfj : flOK (fun i => Y.2.1 (48 * j + i)) := fl_congr (fun i hi => (hF (48 * j + i) (by omega)).symm) hTj.2.1
        have z4j : 0 ≤ TE (19 * j + 4) ∧ TE (19 * j + 4) ≤ 20000 := hTj.1.2.2.2.2.1
        have hcj : 0 ≤ min Y.2.2.2.2.2 (TE (19 * j + 4)) ∧ min Y.2.2.2.2.2 (TE (19 * j + 4)) ≤ TE (19 * j + 4) := by omega
        have yb := clY_b hAj.1 hAj.2.1 hTj.1 hcj
        have sx : sX (up GE (48 * m + k) a) (up US (48 * m + k) b) k (i + 1) = sX (up GE (48 * m + k) a) (up US (48 * m + k) b) k (i) + (18 + 2 * rdC (fun m_1 => (up GE (48 * m + k) a) (48 * m_1 + j)) (fun m_1 => (up US (48 * m + k) b) (48 * m_1 + j))) := by rw [hji]; rfl
        have sx2 : sX (up GE (48 * m + k) a) (up US (48 * m + k) b) k (i + 1) ≤ sX (up GE (48 * m + k) a) (up US (48 * m + k) b) k (p - k) := sX_le (by omega)
        have hb2 := aft_b2 hAj.1 hAj.2.1 hTj.1 hcj
        refine z_aload_n E hl 0 rfl dX5_correct_135 rfl ?_
        refine z_iload E hl 5 rfl dX5_correct_136 ?_
        refine z_iconst E dX5_correct_138 ?_
        refine z_callV E G hl.1 (c_X5_book l D k4 mo mnw mte mge mus mco mfl mba mdu 0 n p st cc bc Y.2.2.2.1 Y.2.2.2.2.1 bk b1 b2 j TE Y.2.1 Y.2.2.1 ((-1)) hn (by omega) hTj.1 hfj (Or.inr rfl)) kV_X5_143 ⟨rfl, rfl, Nat.le_of_ble_eq_true rfl, Nat.le_of_ble_eq_true rfl⟩ [0, 2, 6, 7] rfl (by decide) 0 5 rfl rfl rfl rfl rfl (Nat.le_of_ble_eq_true rfl) dX5_correct_139 ⟨(by first | exact Nat.le_of_ble_eq_true rfl | omega | (show _ ≤ (sX (up GE (48 * m + k) a) (up US (48 * m + k) b) k (p - k)); omega)), (by first | exact Nat.le_of_ble_eq_true rfl | omega | (show _ ≤ (11 * sX (up GE (48 * m + k) a) (up US (48 * m + k) b) k (p - k)); omega))⟩ (fun v9 w9 H locs hq G => ?_)
        obtain ⟨rfl, rfl⟩ := hq
        refine W.eq (g2 := F0 mm 142 ls []) rfl ?_
        have G : zG D AA ss.heap [(mo, .inr (5, [.int (iI (0)), .int (iI (((n : Nat) : Int))), .ref mnw, .ref mte, .ref mge, .ref mus, .int (iI (((p : Nat) : Int))), .int (iI (((st : Nat) : Int))), .int (iI (cc)), .int (iI (bc)), .ref mco, .ref mfl, .ref mba, .ref mdu, .long (lI (Y.2.2.2.1 + mP (fun i => TE (19 * j + i)) (fun i => Y.2.1 (48 * j + i)) (-1) n)), .long (lI (Y.2.2.2.2.1 + mG (fun i => TE (19 * j + i)) (fun i => Y.2.1 (48 * j + i)) (-1) n)), .long (lI (bk)), .int (iI (b1)), .int (iI (b2))])), (mnw, .inl (k4 0, 19, .inl (fun i9 => iI (NW i9)))), (mte, .inl (k4 0, 912, .inl (fun i9 => iI (TE i9)))), (mge, .inl (k4 0, 288, .inl (fun i9 => iI ((up GE (48 * m + k) a) i9)))), (mus, .inl (k4 0, 288, .inl (fun i9 => iI ((up US (48 * m + k) b) i9)))), (mco, .inl (k4 0, 48, .inl (fun i9 => iI (Y.1 i9)))), (mfl, .inl (k4 0, 2304, .inl (fun i9 => iI (Y.2.1 i9)))), (mba, .inl (k4 1, 6, .inr (.inl (fun i9 => lI ((bookB Y.2.2.1 (fun i => Y.2.1 (48 * j + i)) (-1) n) i9)))))] H locs := G
        refine z_aload_n E hl 0 rfl dX5_correct_142 rfl ?_
        refine z_iload E hl 5 rfl dX5_correct_143 ?_
        refine z_iload E hl 4 rfl dX5_correct_145 ?_
        refine z_callV E G hl.1 (c_X5_settleSlot l D k4 mo mnw mte mge mus mco mfl mba mdu 0 n p st cc bc (Y.2.2.2.1 + mP (fun i => TE (19 * j + i)) (fun i => Y.2.1 (48 * j + i)) (-1) n) (Y.2.2.2.2.1 + mG (fun i => TE (19 * j + i)) (fun i => Y.2.1 (48 * j + i)) (-1) n) bk b1 b2 j Y.2.2.2.2.2 TE ((up GE (48 * m + k) a)) ((up US (48 * m + k) b)) Y.1 Y.2.1 ((bookB Y.2.2.1 (fun i => Y.2.1 (48 * j + i)) (-1) n)) hn (by omega) hAj.1 hAj.2.1 hAj.2.2.1 hAj.2.2.2 hTj.1 hb9) kV_X5_150 ⟨rfl, rfl, Nat.le_of_ble_eq_true rfl, Nat.le_of_ble_eq_true rfl⟩ [0, 2, 3, 4, 5, 6, 7] rfl (by decide) 0 5 rfl rfl rfl rfl rfl (Nat.le_of_ble_eq_true rfl) dX5_correct_147 ⟨(by first | exact Nat.le_of_ble_eq_true rfl | omega | (show _ ≤ (sX (up GE (48 * m + k) a) (up US (48 * m + k) b) k (p - k)); omega)), (by first | exact Nat.le_of_ble_eq_true rfl | omega | (show _ ≤ (11 * sX (up GE (48 * m + k) a) (up US (48 * m + k) b) k (p - k)); omega))⟩ (fun v9 w9 H locs hq G => ?_)
        obtain ⟨rfl, rfl⟩ := hq
        refine W.eq (g2 := F0 mm 150 ls []) rfl ?_
        have G : zG D AA ss.heap [(mo, .inr (5, [.int (iI (0)), .int (iI (((n : Nat) : Int))), .ref mnw, .ref mte, .ref mge, .ref mus, .int (iI (((p : Nat) : Int))), .int (iI (((st : Nat) : Int))), .int (iI (cc)), .int (iI (bc)), .ref mco, .ref mfl, .ref mba, .ref mdu, .long (lI ((Y.2.2.2.1 + mP (fun i => TE (19 * j + i)) (fun i => Y.2.1 (48 * j + i)) (-1) n) + mP (fun i => TE (19 * j + i)) (CV (fun x0 => (up GE (48 * m + k) a) (48 * x0 + j)) (fun x0 => (up US (48 * m + k) b) (48 * x0 + j)) (fun i => TE (19 * j + i)) (min Y.2.2.2.2.2 (TE (19 * j + 4)))) 1 n)), .long (lI ((Y.2.2.2.2.1 + mG (fun i => TE (19 * j + i)) (fun i => Y.2.1 (48 * j + i)) (-1) n) + mG (fun i => TE (19 * j + i)) (CV (fun x0 => (up GE (48 * m + k) a) (48 * x0 + j)) (fun x0 => (up US (48 * m + k) b) (48 * x0 + j)) (fun i => TE (19 * j + i)) (min Y.2.2.2.2.2 (TE (19 * j + 4)))) 1 n)), .long (lI (bk)), .int (iI (betW (fun x0 => (up GE (48 * m + k) a) (48 * x0 + j)) (fun x0 => (up US (48 * m + k) b) (48 * x0 + j)))), .int (iI (CAft (fun x0 => (up GE (48 * m + k) a) (48 * x0 + j)) (fun x0 => (up US (48 * m + k) b) (48 * x0 + j)) (fun i => TE (19 * j + i)) (min Y.2.2.2.2.2 (TE (19 * j + 4)))))])), (mnw, .inl (k4 0, 19, .inl (fun i9 => iI (NW i9)))), (mte, .inl (k4 0, 912, .inl (fun i9 => iI (TE i9)))), (mge, .inl (k4 0, 288, .inl (fun i9 => iI ((up GE (48 * m + k) a) i9)))), (mus, .inl (k4 0, 288, .inl (fun i9 => iI ((up US (48 * m + k) b) i9)))), (mco, .inl (k4 0, 48, .inl (fun i9 => iI ((up Y.1 j (min Y.2.2.2.2.2 (TE (19 * j + 4)))) i9)))), (mfl, .inl (k4 0, 2304, .inl (fun i9 => iI ((cpyI (CV (fun x0 => (up GE (48 * m + k) a) (48 * x0 + j)) (fun x0 => (up US (48 * m + k) b) (48 * x0 + j)) (fun i => TE (19 * j + i)) (min Y.2.2.2.2.2 (TE (19 * j + 4)))) Y.2.1 0 (48 * j) 48) i9)))), (mba, .inl (k4 1, 6, .inr (.inl (fun i9 => lI ((bookB (bookB Y.2.2.1 (fun i => Y.2.1 (48 * j + i)) (-1) n) (CV (fun x0 => (up GE (48 * m + k) a) (48 * x0 + j)) (fun x0 => (up US (48 * m + k) b) (48 * x0 + j)) (fun i => TE (19 * j + i)) (min Y.2.2.2.2.2 (TE (19 * j + 4)))) 1 n) i9)))))] H locs := G
        obtain ⟨Y9, hY9⟩ : ∃ Y9 : mSt, Y9 = (mX TE (up GE (48 * m + k) a) (up US (48 * m + k) b) n j Y) := ⟨_, rfl⟩
        have u1 : Y9.1 = (up Y.1 j (min Y.2.2.2.2.2 (TE (19 * j + 4)))) := by rw [hY9]; rfl
        have u2 : Y9.2.1 = (cpyI (CV (fun x0 => (up GE (48 * m + k) a) (48 * x0 + j)) (fun x0 => (up US (48 * m + k) b) (48 * x0 + j)) (fun i => TE (19 * j + i)) (min Y.2.2.2.2.2 (TE (19 * j + 4)))) Y.2.1 0 (48 * j) 48) := by rw [hY9]; rfl
        have u3 : Y9.2.2.1 = (bookB (bookB Y.2.2.1 (fun i => Y.2.1 (48 * j + i)) (-1) n) (CV (fun x0 => (up GE (48 * m + k) a) (48 * x0 + j)) (fun x0 => (up US (48 * m + k) b) (48 * x0 + j)) (fun i => TE (19 * j + i)) (min Y.2.2.2.2.2 (TE (19 * j + 4)))) 1 n) := by rw [hY9]; rfl
        have u4 : Y9.2.2.2.1 = (Y.2.2.2.1 + mP (fun i => TE (19 * j + i)) (fun i => Y.2.1 (48 * j + i)) (-1) n) + mP (fun i => TE (19 * j + i)) (CV (fun x0 => (up GE (48 * m + k) a) (48 * x0 + j)) (fun x0 => (up US (48 * m + k) b) (48 * x0 + j)) (fun i => TE (19 * j + i)) (min Y.2.2.2.2.2 (TE (19 * j + 4)))) 1 n := by rw [hY9]; rfl
        have u5 : Y9.2.2.2.2.1 = (Y.2.2.2.2.1 + mG (fun i => TE (19 * j + i)) (fun i => Y.2.1 (48 * j + i)) (-1) n) + mG (fun i => TE (19 * j + i)) (CV (fun x0 => (up GE (48 * m + k) a) (48 * x0 + j)) (fun x0 => (up US (48 * m + k) b) (48 * x0 + j)) (fun i => TE (19 * j + i)) (min Y.2.2.2.2.2 (TE (19 * j + 4)))) 1 n := by rw [hY9]; rfl
        have u6 : Y9.2.2.2.2.2 = (CAft (fun m_1 => (up GE (48 * m + k) a) (48 * m_1 + j)) (fun m_1 => (up US (48 * m + k) b) (48 * m_1 + j)) (fun i => TE (19 * j + i)) (min Y.2.2.2.2.2 (TE (19 * j + 4)))) := by rw [hY9]; rfl
        have G : zG D AA ss.heap [(mo, .inr (5, [.int (iI (0)), .int (iI (((n : Nat) : Int))), .ref mnw, .ref mte, .ref mge, .ref mus, .int (iI (((p : Nat) : Int))), .int (iI (((st : Nat) : Int))), .int (iI (cc)), .int (iI (bc)), .ref mco, .ref mfl, .ref mba, .ref mdu, .long (lI (Y9.2.2.2.1)), .long (lI (Y9.2.2.2.2.1)), .long (lI (bk)), .int (iI ((betW (fun m_1 => (up GE (48 * m + k) a) (48 * m_1 + j)) (fun m_1 => (up US (48 * m + k) b) (48 * m_1 + j))))), .int (iI ((CAft (fun m_1 => (up GE (48 * m + k) a) (48 * m_1 + j)) (fun m_1 => (up US (48 * m + k) b) (48 * m_1 + j)) (fun i => TE (19 * j + i)) (min Y.2.2.2.2.2 (TE (19 * j + 4))))))])), (mnw, .inl (k4 0, 19, .inl (fun i9 => iI (NW i9)))), (mte, .inl (k4 0, 912, .inl (fun i9 => iI (TE i9)))), (mge, .inl (k4 0, 288, .inl (fun i9 => iI ((up GE (48 * m + k) a) i9)))), (mus, .inl (k4 0, 288, .inl (fun i9 => iI ((up US (48 * m + k) b) i9)))), (mco, .inl (k4 0, 48, .inl (fun i9 => iI (Y9.1 i9)))), (mfl, .inl (k4 0, 2304, .inl (fun i9 => iI (Y9.2.1 i9)))), (mba, .inl (k4 1, 6, .inr (.inl (fun i9 => lI (Y9.2.2.1 i9)))))] H locs := by rw [u1, u2, u3, u4, u5]; exact G
        refine z_aload_n E hl 0 rfl dX5_correct_150 rfl ?_
        refine kg_X5_111 E G 0 rfl rfl dX5_correct_151 ?_
        refine z_istore E [(7, .int (iI ((CAft (fun m_1 => (up GE (48 * m + k) a) (48 * m_1 + j)) (fun m_1 => (up US (48 * m + k) b) (48 * m_1 + j)) (fun i => TE (19 * j + i)) (min Y.2.2.2.2.2 (TE (19 * j + 4))))))), (0, .ref mo), (1, .int (iI (((m : Nat) : Int)))), (2, .int (iI (((k : Nat) : Int)))), (5, .long (lI (BA m))), (8, .int (iI (((j : Nat) : Int))))] dX5_correct_154 hl (by decide) rfl (fun ls hl => ?_)
        refine z_iinc E [(8, .int (iI (((j : Nat) : Int) + 1))), (7, .int (iI ((CAft (fun m_1 => (up GE (48 * m + k) a) (48 * m_1 + j)) (fun m_1 => (up US (48 * m + k) b) (48 * m_1 + j)) (fun i => TE (19 * j + i)) (min Y.2.2.2.2.2 (TE (19 * j + 4))))))), (0, .ref mo), (1, .int (iI (((m : Nat) : Int)))), (2, .int (iI (((k : Nat) : Int)))), (5, .long (lI (BA m)))] dX5_correct_156 hl (k := 5) rfl (by decide) rfl (fun ls hl => ?_)
        refine z_goto (tgt := 126) E dX5_correct_159 (by decide) ?_
        rw [← u6] at hl
        refine W.widen (show _ ≤ sX (up GE (48 * m + k) a) (up US (48 * m + k) b) k (i + 1) by omega) (show _ ≤ 11 * sX (up GE (48 * m + k) a) (up US (48 * m + k) b) k (i + 1) by omega) ?_
        exact ih126_1 (i + 1) (j + 1) Y9 (betW (fun m_1 => (up GE (48 * m + k) a) (48 * m_1 + j)) (fun m_1 => (up US (48 * m + k) b) (48 * m_1 + j))) (CAft (fun m_1 => (up GE (48 * m + k) a) (48 * m_1 + j)) (fun m_1 => (up US (48 * m + k) b) (48 * m_1 + j)) (fun i => TE (19 * j + i)) (min Y.2.2.2.2.2 (TE (19 * j + 4)))) _ _ _ (by omega) (by omega) (by omega) (by rw [hY9, hY, hji]; rfl) (by rw [u6]; exact hb2) (fun x hx => by rw [u2]; exact (cpy_o (by omega)).trans (hF x (by omega))) G (lv_sub hl [2, 3, 4, 5, 1, 0] rfl)
  exact hp126_1 (p + 1) 0 k (CO, FL, BA, pot, gr, CO k) btw bhd _ _ _ (by omega) rfl (by omega) rfl hk0 (fun _ _ => rfl) G (lv_sub hl [3, 4, 5, 2, 1, 0] rfl)

def q_c_X5_correct_0 (k4 : Nat → ClassId) (mo mnw mte mge mus mco mfl mba mdu : Nat) (th : Int) (n p st : Nat) (cc bc pot gr bk btw bhd : Int) (m k a b : Int) : Option Value → va_W → Prop := (fun (v9 : Option Value) (w9 : va_W) => v9 = some (.long (lI (0))) ∧ w9 = [(mo, .inr (5, [.int (iI (1)), .int (iI (((n : Nat) : Int))), .ref mnw, .ref mte, .ref mge, .ref mus, .int (iI (((p : Nat) : Int))), .int (iI (((st : Nat) : Int))), .int (iI (cc)), .int (iI (bc)), .ref mco, .ref mfl, .ref mba, .ref mdu, .long (lI (pot)), .long (lI (gr)), .long (lI (bk)), .int (iI (btw)), .int (iI (bhd))]))])
set_option maxHeartbeats 4000000 in
set_option maxRecDepth 100000 in
theorem c_X5_correct_0 (l : Launch) (D : va_G) (k4 : Nat → ClassId) (mo mnw mte mge mus mco mfl mba mdu : Nat) (th : Int) (n p st : Nat) (cc bc pot gr bk btw bhd : Int) (m k a b : Int) (hn : n ≤ 6) (hm : (-2147483648 ≤ m ∧ m ≤ 2147483647) ∧ (m < 0 ∨ (n : Int) ≤ m)) : zC l yX5_correct (zW yX5_correct cX5_correct 9 (some .long)) ({ frames := 2, cells := 0, slots := 0, locals := 46 } : Room) D k4 [.ref mo, .int (iI (m)), .int (iI (k)), .int (iI (a)), .int (iI (b))] [(mo, .inr (5, [.int (iI (th)), .int (iI (((n : Nat) : Int))), .ref mnw, .ref mte, .ref mge, .ref mus, .int (iI (((p : Nat) : Int))), .int (iI (((st : Nat) : Int))), .int (iI (cc)), .int (iI (bc)), .ref mco, .ref mfl, .ref mba, .ref mdu, .long (lI (pot)), .long (lI (gr)), .long (lI (bk)), .int (iI (btw)), .int (iI (bhd))]))] (0) (0) (q_c_X5_correct_0 k4 mo mnw mte mge mus mco mfl mba mdu th n p st cc bc pot gr bk btw bhd m k a b) := by
  refine zC_of (cc := cX5_correct) (by decide) (Nat.le_of_ble_eq_true rfl) (fun pp ee ss mm bl me co AA H locs ls E hr hlocks hin G hl => ?_)
  have hl : lv_has ls 9 [(0, .ref mo), (1, .int (iI (m))), (2, .int (iI (k))), (3, .int (iI (a))), (4, .int (iI (b)))] := hl
  refine z_aload_n E hl 0 rfl dX5_correct_0 rfl ?_
  refine z_aload_n E hl 0 rfl dX5_correct_1 rfl ?_
  refine z_iload_n E hl 1 rfl dX5_correct_2 rfl ?_
  refine z_callV E G hl.1 (c_X5_isMemberF l D k4 mo mnw mte mge mus mco mfl mba mdu th n p st cc bc pot gr bk btw bhd m (by omega) ⟨by omega, by omega⟩ hn) kV_X5_55 ⟨rfl, rfl, Nat.le_of_ble_eq_true rfl, Nat.le_of_ble_eq_true rfl⟩ [0] rfl (by decide) 0 5 rfl rfl rfl rfl rfl (Nat.le_of_ble_eq_true rfl) dX5_correct_3 ⟨(by first | exact Nat.le_of_ble_eq_true rfl | omega | (show _ ≤ (0); omega)), (by first | exact Nat.le_of_ble_eq_true rfl | omega | (show _ ≤ (0); omega))⟩ (fun v9 w9 H locs hq G => ?_)
  obtain ⟨rfl, rfl⟩ := hq
  refine W.eq (g2 := F0 mm 6 ls [.int (iI (0)), .ref mo]) rfl ?_
  have G : zG D AA ss.heap [(mo, .inr (5, [.int (iI (th)), .int (iI (((n : Nat) : Int))), .ref mnw, .ref mte, .ref mge, .ref mus, .int (iI (((p : Nat) : Int))), .int (iI (((st : Nat) : Int))), .int (iI (cc)), .int (iI (bc)), .ref mco, .ref mfl, .ref mba, .ref mdu, .long (lI (pot)), .long (lI (gr)), .long (lI (bk)), .int (iI (btw)), .int (iI (bhd))]))] H locs := G
  refine z_if_eq (tgt := 16) E dX5_correct_6 (by decide) (by decide) (fun c_6 => ?_) (fun c_6 => absurd c_6 (by decide))
  refine z_iconst E dX5_correct_16 ?_
  refine z_goto (tgt := 70) E dX5_correct_17 (by decide) ?_
  refine kp_X5_35 E G 0 rfl (Nat.le_of_ble_eq_true rfl) dX5_correct_70 (fun H locs G => ?_)
  have G : zG D AA ss.heap [(mo, .inr (5, [.int (iI (1)), .int (iI (((n : Nat) : Int))), .ref mnw, .ref mte, .ref mge, .ref mus, .int (iI (((p : Nat) : Int))), .int (iI (((st : Nat) : Int))), .int (iI (cc)), .int (iI (bc)), .ref mco, .ref mfl, .ref mba, .ref mdu, .long (lI (pot)), .long (lI (gr)), .long (lI (bk)), .int (iI (btw)), .int (iI (bhd))]))] H locs := G
  refine z_aload_n E hl 0 rfl dX5_correct_73 rfl ?_
  refine kg_X5_35 E G 0 rfl rfl dX5_correct_74 ?_
  refine z_if_eq (tgt := 82) E dX5_correct_77 (by decide) (by decide) (fun c_77 => absurd c_77 (by decide)) (fun c_77 => ?_)
  refine z_lconst E (z := 0) dX5_correct_80 (by decide) ?_
  exact z_lret (w' := [(mo, .inr (5, [.int (iI (1)), .int (iI (((n : Nat) : Int))), .ref mnw, .ref mte, .ref mge, .ref mus, .int (iI (((p : Nat) : Int))), .int (iI (((st : Nat) : Int))), .int (iI (cc)), .int (iI (bc)), .ref mco, .ref mfl, .ref mba, .ref mdu, .long (lI (pot)), .long (lI (gr)), .long (lI (bk)), .int (iI (btw)), .int (iI (bhd))]))]) (v := 0) E hr hlocks G dX5_correct_81 (by omega) (by omega) (zx0 rfl) ⟨rfl, rfl⟩

def q_c_X5_correct_1 (k4 : Nat → ClassId) (mo mnw mte mge mus mco mfl mba mdu : Nat) (th : Int) (n p st : Nat) (cc bc pot gr bk btw bhd : Int) (m : Nat) (k a b : Int) : Option Value → va_W → Prop := (fun (v9 : Option Value) (w9 : va_W) => v9 = some (.long (lI (0))) ∧ w9 = [(mo, .inr (5, [.int (iI (1)), .int (iI (((n : Nat) : Int))), .ref mnw, .ref mte, .ref mge, .ref mus, .int (iI (((p : Nat) : Int))), .int (iI (((st : Nat) : Int))), .int (iI (cc)), .int (iI (bc)), .ref mco, .ref mfl, .ref mba, .ref mdu, .long (lI (pot)), .long (lI (gr)), .long (lI (bk)), .int (iI (btw)), .int (iI (bhd))]))])
set_option maxHeartbeats 4000000 in
set_option maxRecDepth 100000 in
theorem c_X5_correct_1 (l : Launch) (D : va_G) (k4 : Nat → ClassId) (mo mnw mte mge mus mco mfl mba mdu : Nat) (th : Int) (n p st : Nat) (cc bc pot gr bk btw bhd : Int) (m : Nat) (k a b : Int) (hn : n ≤ 6) (hm : m < n) (hk : (-2147483648 ≤ k ∧ k ≤ 2147483647) ∧ (k < 0 ∨ 47 < k)) : zC l yX5_correct (zW yX5_correct cX5_correct 9 (some .long)) ({ frames := 2, cells := 0, slots := 0, locals := 46 } : Room) D k4 [.ref mo, .int (iI (((m : Nat) : Int))), .int (iI (k)), .int (iI (a)), .int (iI (b))] [(mo, .inr (5, [.int (iI (th)), .int (iI (((n : Nat) : Int))), .ref mnw, .ref mte, .ref mge, .ref mus, .int (iI (((p : Nat) : Int))), .int (iI (((st : Nat) : Int))), .int (iI (cc)), .int (iI (bc)), .ref mco, .ref mfl, .ref mba, .ref mdu, .long (lI (pot)), .long (lI (gr)), .long (lI (bk)), .int (iI (btw)), .int (iI (bhd))]))] (0) (0) (q_c_X5_correct_1 k4 mo mnw mte mge mus mco mfl mba mdu th n p st cc bc pot gr bk btw bhd m k a b) := by
  refine zC_of (cc := cX5_correct) (by decide) (Nat.le_of_ble_eq_true rfl) (fun pp ee ss mm bl me co AA H locs ls E hr hlocks hin G hl => ?_)
  have hl : lv_has ls 9 [(0, .ref mo), (1, .int (iI (((m : Nat) : Int)))), (2, .int (iI (k))), (3, .int (iI (a))), (4, .int (iI (b)))] := hl
  refine z_aload_n E hl 0 rfl dX5_correct_0 rfl ?_
  refine z_aload_n E hl 0 rfl dX5_correct_1 rfl ?_
  refine z_iload_n E hl 1 rfl dX5_correct_2 rfl ?_
  refine z_callV E G hl.1 (c_X5_isMember l D k4 mo mnw mte mge mus mco mfl mba mdu th n p st cc bc pot gr bk btw bhd (((m : Nat) : Int)) (by omega) ⟨by omega, by omega⟩ hn) kV_X5_55 ⟨rfl, rfl, Nat.le_of_ble_eq_true rfl, Nat.le_of_ble_eq_true rfl⟩ [0] rfl (by decide) 0 5 rfl rfl rfl rfl rfl (Nat.le_of_ble_eq_true rfl) dX5_correct_3 ⟨(by first | exact Nat.le_of_ble_eq_true rfl | omega | (show _ ≤ (0); omega)), (by first | exact Nat.le_of_ble_eq_true rfl | omega | (show _ ≤ (0); omega))⟩ (fun v9 w9 H locs hq G => ?_)
  obtain ⟨rfl, rfl⟩ := hq
  refine W.eq (g2 := F0 mm 6 ls [.int (iI (1)), .ref mo]) rfl ?_
  have G : zG D AA ss.heap [(mo, .inr (5, [.int (iI (th)), .int (iI (((n : Nat) : Int))), .ref mnw, .ref mte, .ref mge, .ref mus, .int (iI (((p : Nat) : Int))), .int (iI (((st : Nat) : Int))), .int (iI (cc)), .int (iI (bc)), .ref mco, .ref mfl, .ref mba, .ref mdu, .long (lI (pot)), .long (lI (gr)), .long (lI (bk)), .int (iI (btw)), .int (iI (bhd))]))] H locs := G
  refine z_if_eq (tgt := 16) E dX5_correct_6 (by decide) (by decide) (fun c_6 => absurd c_6 (by decide)) (fun c_6 => ?_)
  refine z_iload_n E hl 2 rfl dX5_correct_9 rfl ?_
  refine z_callS E G hl.1 (c_X5_isSlotF l D k4 k (by omega) ⟨by omega, by omega⟩) kS_X5_147 ⟨rfl, rfl, Nat.le_of_ble_eq_true rfl, Nat.le_of_ble_eq_true rfl⟩ [] rfl (by decide) rfl rfl (Nat.le_of_ble_eq_true rfl) dX5_correct_10 ⟨(by first | exact Nat.le_of_ble_eq_true rfl | omega | (show _ ≤ (0); omega)), (by first | exact Nat.le_of_ble_eq_true rfl | omega | (show _ ≤ (0); omega))⟩ (fun v9 w9 H locs hq G => ?_)
  obtain ⟨rfl, rfl⟩ := hq
  refine W.eq (g2 := F0 mm 13 ls [.int (iI (0)), .ref mo]) rfl ?_
  have G : zG D AA ss.heap [(mo, .inr (5, [.int (iI (th)), .int (iI (((n : Nat) : Int))), .ref mnw, .ref mte, .ref mge, .ref mus, .int (iI (((p : Nat) : Int))), .int (iI (((st : Nat) : Int))), .int (iI (cc)), .int (iI (bc)), .ref mco, .ref mfl, .ref mba, .ref mdu, .long (lI (pot)), .long (lI (gr)), .long (lI (bk)), .int (iI (btw)), .int (iI (bhd))]))] H locs := G
  refine z_if_ne (tgt := 20) E dX5_correct_13 (by decide) (by decide) (fun c_13 => absurd c_13 (by decide)) (fun c_13 => ?_)
  refine z_iconst E dX5_correct_16 ?_
  refine z_goto (tgt := 70) E dX5_correct_17 (by decide) ?_
  refine kp_X5_35 E G 0 rfl (Nat.le_of_ble_eq_true rfl) dX5_correct_70 (fun H locs G => ?_)
  have G : zG D AA ss.heap [(mo, .inr (5, [.int (iI (1)), .int (iI (((n : Nat) : Int))), .ref mnw, .ref mte, .ref mge, .ref mus, .int (iI (((p : Nat) : Int))), .int (iI (((st : Nat) : Int))), .int (iI (cc)), .int (iI (bc)), .ref mco, .ref mfl, .ref mba, .ref mdu, .long (lI (pot)), .long (lI (gr)), .long (lI (bk)), .int (iI (btw)), .int (iI (bhd))]))] H locs := G
  refine z_aload_n E hl 0 rfl dX5_correct_73 rfl ?_
  refine kg_X5_35 E G 0 rfl rfl dX5_correct_74 ?_
  refine z_if_eq (tgt := 82) E dX5_correct_77 (by decide) (by decide) (fun c_77 => absurd c_77 (by decide)) (fun c_77 => ?_)
  refine z_lconst E (z := 0) dX5_correct_80 (by decide) ?_
  exact z_lret (w' := [(mo, .inr (5, [.int (iI (1)), .int (iI (((n : Nat) : Int))), .ref mnw, .ref mte, .ref mge, .ref mus, .int (iI (((p : Nat) : Int))), .int (iI (((st : Nat) : Int))), .int (iI (cc)), .int (iI (bc)), .ref mco, .ref mfl, .ref mba, .ref mdu, .long (lI (pot)), .long (lI (gr)), .long (lI (bk)), .int (iI (btw)), .int (iI (bhd))]))]) (v := 0) E hr hlocks G dX5_correct_81 (by omega) (by omega) (zx0 rfl) ⟨rfl, rfl⟩

def q_c_X5_correct_2 (k4 : Nat → ClassId) (mo mnw mte mge mus mco mfl mba mdu : Nat) (th : Int) (n p st : Nat) (cc bc pot gr bk btw bhd : Int) (m k : Nat) (a b : Int) : Option Value → va_W → Prop := (fun (v9 : Option Value) (w9 : va_W) => v9 = some (.long (lI (0))) ∧ w9 = [(mo, .inr (5, [.int (iI (2)), .int (iI (((n : Nat) : Int))), .ref mnw, .ref mte, .ref mge, .ref mus, .int (iI (((p : Nat) : Int))), .int (iI (((st : Nat) : Int))), .int (iI (cc)), .int (iI (bc)), .ref mco, .ref mfl, .ref mba, .ref mdu, .long (lI (pot)), .long (lI (gr)), .long (lI (bk)), .int (iI (btw)), .int (iI (bhd))]))])
set_option maxHeartbeats 4000000 in
set_option maxRecDepth 100000 in
theorem c_X5_correct_2 (l : Launch) (D : va_G) (k4 : Nat → ClassId) (mo mnw mte mge mus mco mfl mba mdu : Nat) (th : Int) (n p st : Nat) (cc bc pot gr bk btw bhd : Int) (m k : Nat) (a b : Int) (hn : n ≤ 6) (hm : m < n) (hk : k < 48) (ha : (-2147483648 ≤ a ∧ a ≤ 2147483647) ∧ (a < 0 ∨ 5000 < a)) : zC l yX5_correct (zW yX5_correct cX5_correct 9 (some .long)) ({ frames := 2, cells := 0, slots := 0, locals := 46 } : Room) D k4 [.ref mo, .int (iI (((m : Nat) : Int))), .int (iI (((k : Nat) : Int))), .int (iI (a)), .int (iI (b))] [(mo, .inr (5, [.int (iI (th)), .int (iI (((n : Nat) : Int))), .ref mnw, .ref mte, .ref mge, .ref mus, .int (iI (((p : Nat) : Int))), .int (iI (((st : Nat) : Int))), .int (iI (cc)), .int (iI (bc)), .ref mco, .ref mfl, .ref mba, .ref mdu, .long (lI (pot)), .long (lI (gr)), .long (lI (bk)), .int (iI (btw)), .int (iI (bhd))]))] (0) (0) (q_c_X5_correct_2 k4 mo mnw mte mge mus mco mfl mba mdu th n p st cc bc pot gr bk btw bhd m k a b) := by
  refine zC_of (cc := cX5_correct) (by decide) (Nat.le_of_ble_eq_true rfl) (fun pp ee ss mm bl me co AA H locs ls E hr hlocks hin G hl => ?_)
  have hl : lv_has ls 9 [(0, .ref mo), (1, .int (iI (((m : Nat) : Int)))), (2, .int (iI (((k : Nat) : Int)))), (3, .int (iI (a))), (4, .int (iI (b)))] := hl
  refine z_aload_n E hl 0 rfl dX5_correct_0 rfl ?_
  refine z_aload_n E hl 0 rfl dX5_correct_1 rfl ?_
  refine z_iload_n E hl 1 rfl dX5_correct_2 rfl ?_
  refine z_callV E G hl.1 (c_X5_isMember l D k4 mo mnw mte mge mus mco mfl mba mdu th n p st cc bc pot gr bk btw bhd (((m : Nat) : Int)) (by omega) ⟨by omega, by omega⟩ hn) kV_X5_55 ⟨rfl, rfl, Nat.le_of_ble_eq_true rfl, Nat.le_of_ble_eq_true rfl⟩ [0] rfl (by decide) 0 5 rfl rfl rfl rfl rfl (Nat.le_of_ble_eq_true rfl) dX5_correct_3 ⟨(by first | exact Nat.le_of_ble_eq_true rfl | omega | (show _ ≤ (0); omega)), (by first | exact Nat.le_of_ble_eq_true rfl | omega | (show _ ≤ (0); omega))⟩ (fun v9 w9 H locs hq G => ?_)
  obtain ⟨rfl, rfl⟩ := hq
  refine W.eq (g2 := F0 mm 6 ls [.int (iI (1)), .ref mo]) rfl ?_
  have G : zG D AA ss.heap [(mo, .inr (5, [.int (iI (th)), .int (iI (((n : Nat) : Int))), .ref mnw, .ref mte, .ref mge, .ref mus, .int (iI (((p : Nat) : Int))), .int (iI (((st : Nat) : Int))), .int (iI (cc)), .int (iI (bc)), .ref mco, .ref mfl, .ref mba, .ref mdu, .long (lI (pot)), .long (lI (gr)), .long (lI (bk)), .int (iI (btw)), .int (iI (bhd))]))] H locs := G
  refine z_if_eq (tgt := 16) E dX5_correct_6 (by decide) (by decide) (fun c_6 => absurd c_6 (by decide)) (fun c_6 => ?_)
  refine z_iload_n E hl 2 rfl dX5_correct_9 rfl ?_
  refine z_callS E G hl.1 (c_X5_isSlot l D k4 (((k : Nat) : Int)) (by omega) ⟨by omega, by omega⟩) kS_X5_147 ⟨rfl, rfl, Nat.le_of_ble_eq_true rfl, Nat.le_of_ble_eq_true rfl⟩ [] rfl (by decide) rfl rfl (Nat.le_of_ble_eq_true rfl) dX5_correct_10 ⟨(by first | exact Nat.le_of_ble_eq_true rfl | omega | (show _ ≤ (0); omega)), (by first | exact Nat.le_of_ble_eq_true rfl | omega | (show _ ≤ (0); omega))⟩ (fun v9 w9 H locs hq G => ?_)
  obtain ⟨rfl, rfl⟩ := hq
  refine W.eq (g2 := F0 mm 13 ls [.int (iI (1)), .ref mo]) rfl ?_
  have G : zG D AA ss.heap [(mo, .inr (5, [.int (iI (th)), .int (iI (((n : Nat) : Int))), .ref mnw, .ref mte, .ref mge, .ref mus, .int (iI (((p : Nat) : Int))), .int (iI (((st : Nat) : Int))), .int (iI (cc)), .int (iI (bc)), .ref mco, .ref mfl, .ref mba, .ref mdu, .long (lI (pot)), .long (lI (gr)), .long (lI (bk)), .int (iI (btw)), .int (iI (bhd))]))] H locs := G
  refine z_if_ne (tgt := 20) E dX5_correct_13 (by decide) (by decide) (fun c_13 => ?_) (fun c_13 => absurd c_13 (by decide))
  refine z_iload_n E hl 3 rfl dX5_correct_20 rfl ?_
  refine z_i2l E dX5_correct_21 ⟨by omega, by omega⟩ ?_
  refine z_lconst E (z := 0) dX5_correct_22 (by decide) ?_
  refine z_ldc2 E (n := (5000)) zw_191 (by decide +kernel) dX5_correct_23 ?_
  refine z_callS E G hl.1 (c_X5_isInF l D k4 a 0 5000 (by omega) ⟨⟨by omega, by omega⟩, ⟨by omega, by omega⟩, ⟨by omega, by omega⟩⟩) kS_X5_42 ⟨rfl, rfl, Nat.le_of_ble_eq_true rfl, Nat.le_of_ble_eq_true rfl⟩ [] rfl (by decide) rfl rfl (Nat.le_of_ble_eq_true rfl) dX5_correct_26 ⟨(by first | exact Nat.le_of_ble_eq_true rfl | omega | (show _ ≤ (0); omega)), (by first | exact Nat.le_of_ble_eq_true rfl | omega | (show _ ≤ (0); omega))⟩ (fun v9 w9 H locs hq G => ?_)
  obtain ⟨rfl, rfl⟩ := hq
  refine W.eq (g2 := F0 mm 29 ls [.int (iI (0)), .ref mo]) rfl ?_
  have G : zG D AA ss.heap [(mo, .inr (5, [.int (iI (th)), .int (iI (((n : Nat) : Int))), .ref mnw, .ref mte, .ref mge, .ref mus, .int (iI (((p : Nat) : Int))), .int (iI (((st : Nat) : Int))), .int (iI (cc)), .int (iI (bc)), .ref mco, .ref mfl, .ref mba, .ref mdu, .long (lI (pot)), .long (lI (gr)), .long (lI (bk)), .int (iI (btw)), .int (iI (bhd))]))] H locs := G
  refine z_if_eq (tgt := 45) E dX5_correct_29 (by decide) (by decide) (fun c_29 => ?_) (fun c_29 => absurd c_29 (by decide))
  refine z_iconst E dX5_correct_45 ?_
  refine z_goto (tgt := 70) E dX5_correct_46 (by decide) ?_
  refine kp_X5_35 E G 0 rfl (Nat.le_of_ble_eq_true rfl) dX5_correct_70 (fun H locs G => ?_)
  have G : zG D AA ss.heap [(mo, .inr (5, [.int (iI (2)), .int (iI (((n : Nat) : Int))), .ref mnw, .ref mte, .ref mge, .ref mus, .int (iI (((p : Nat) : Int))), .int (iI (((st : Nat) : Int))), .int (iI (cc)), .int (iI (bc)), .ref mco, .ref mfl, .ref mba, .ref mdu, .long (lI (pot)), .long (lI (gr)), .long (lI (bk)), .int (iI (btw)), .int (iI (bhd))]))] H locs := G
  refine z_aload_n E hl 0 rfl dX5_correct_73 rfl ?_
  refine kg_X5_35 E G 0 rfl rfl dX5_correct_74 ?_
  refine z_if_eq (tgt := 82) E dX5_correct_77 (by decide) (by decide) (fun c_77 => absurd c_77 (by decide)) (fun c_77 => ?_)
  refine z_lconst E (z := 0) dX5_correct_80 (by decide) ?_
  exact z_lret (w' := [(mo, .inr (5, [.int (iI (2)), .int (iI (((n : Nat) : Int))), .ref mnw, .ref mte, .ref mge, .ref mus, .int (iI (((p : Nat) : Int))), .int (iI (((st : Nat) : Int))), .int (iI (cc)), .int (iI (bc)), .ref mco, .ref mfl, .ref mba, .ref mdu, .long (lI (pot)), .long (lI (gr)), .long (lI (bk)), .int (iI (btw)), .int (iI (bhd))]))]) (v := 0) E hr hlocks G dX5_correct_81 (by omega) (by omega) (zx0 rfl) ⟨rfl, rfl⟩

def q_c_X5_correct_3 (k4 : Nat → ClassId) (mo mnw mte mge mus mco mfl mba mdu : Nat) (th : Int) (n p st : Nat) (cc bc pot gr bk btw bhd : Int) (m k : Nat) (a b : Int) : Option Value → va_W → Prop := (fun (v9 : Option Value) (w9 : va_W) => v9 = some (.long (lI (0))) ∧ w9 = [(mo, .inr (5, [.int (iI (2)), .int (iI (((n : Nat) : Int))), .ref mnw, .ref mte, .ref mge, .ref mus, .int (iI (((p : Nat) : Int))), .int (iI (((st : Nat) : Int))), .int (iI (cc)), .int (iI (bc)), .ref mco, .ref mfl, .ref mba, .ref mdu, .long (lI (pot)), .long (lI (gr)), .long (lI (bk)), .int (iI (btw)), .int (iI (bhd))]))])
set_option maxHeartbeats 4000000 in
set_option maxRecDepth 100000 in
theorem c_X5_correct_3 (l : Launch) (D : va_G) (k4 : Nat → ClassId) (mo mnw mte mge mus mco mfl mba mdu : Nat) (th : Int) (n p st : Nat) (cc bc pot gr bk btw bhd : Int) (m k : Nat) (a b : Int) (hn : n ≤ 6) (hm : m < n) (hk : k < 48) (ha : 0 ≤ a ∧ a ≤ 5000) (hb : (-2147483648 ≤ b ∧ b ≤ 2147483647) ∧ (b < 0 ∨ 5000 < b)) : zC l yX5_correct (zW yX5_correct cX5_correct 9 (some .long)) ({ frames := 2, cells := 0, slots := 0, locals := 46 } : Room) D k4 [.ref mo, .int (iI (((m : Nat) : Int))), .int (iI (((k : Nat) : Int))), .int (iI (a)), .int (iI (b))] [(mo, .inr (5, [.int (iI (th)), .int (iI (((n : Nat) : Int))), .ref mnw, .ref mte, .ref mge, .ref mus, .int (iI (((p : Nat) : Int))), .int (iI (((st : Nat) : Int))), .int (iI (cc)), .int (iI (bc)), .ref mco, .ref mfl, .ref mba, .ref mdu, .long (lI (pot)), .long (lI (gr)), .long (lI (bk)), .int (iI (btw)), .int (iI (bhd))]))] (0) (0) (q_c_X5_correct_3 k4 mo mnw mte mge mus mco mfl mba mdu th n p st cc bc pot gr bk btw bhd m k a b) := by
  refine zC_of (cc := cX5_correct) (by decide) (Nat.le_of_ble_eq_true rfl) (fun pp ee ss mm bl me co AA H locs ls E hr hlocks hin G hl => ?_)
  have hl : lv_has ls 9 [(0, .ref mo), (1, .int (iI (((m : Nat) : Int)))), (2, .int (iI (((k : Nat) : Int)))), (3, .int (iI (a))), (4, .int (iI (b)))] := hl
  refine z_aload_n E hl 0 rfl dX5_correct_0 rfl ?_
  refine z_aload_n E hl 0 rfl dX5_correct_1 rfl ?_
  refine z_iload_n E hl 1 rfl dX5_correct_2 rfl ?_
  refine z_callV E G hl.1 (c_X5_isMember l D k4 mo mnw mte mge mus mco mfl mba mdu th n p st cc bc pot gr bk btw bhd (((m : Nat) : Int)) (by omega) ⟨by omega, by omega⟩ hn) kV_X5_55 ⟨rfl, rfl, Nat.le_of_ble_eq_true rfl, Nat.le_of_ble_eq_true rfl⟩ [0] rfl (by decide) 0 5 rfl rfl rfl rfl rfl (Nat.le_of_ble_eq_true rfl) dX5_correct_3 ⟨(by first | exact Nat.le_of_ble_eq_true rfl | omega | (show _ ≤ (0); omega)), (by first | exact Nat.le_of_ble_eq_true rfl | omega | (show _ ≤ (0); omega))⟩ (fun v9 w9 H locs hq G => ?_)
  obtain ⟨rfl, rfl⟩ := hq
  refine W.eq (g2 := F0 mm 6 ls [.int (iI (1)), .ref mo]) rfl ?_
  have G : zG D AA ss.heap [(mo, .inr (5, [.int (iI (th)), .int (iI (((n : Nat) : Int))), .ref mnw, .ref mte, .ref mge, .ref mus, .int (iI (((p : Nat) : Int))), .int (iI (((st : Nat) : Int))), .int (iI (cc)), .int (iI (bc)), .ref mco, .ref mfl, .ref mba, .ref mdu, .long (lI (pot)), .long (lI (gr)), .long (lI (bk)), .int (iI (btw)), .int (iI (bhd))]))] H locs := G
  refine z_if_eq (tgt := 16) E dX5_correct_6 (by decide) (by decide) (fun c_6 => absurd c_6 (by decide)) (fun c_6 => ?_)
  refine z_iload_n E hl 2 rfl dX5_correct_9 rfl ?_
  refine z_callS E G hl.1 (c_X5_isSlot l D k4 (((k : Nat) : Int)) (by omega) ⟨by omega, by omega⟩) kS_X5_147 ⟨rfl, rfl, Nat.le_of_ble_eq_true rfl, Nat.le_of_ble_eq_true rfl⟩ [] rfl (by decide) rfl rfl (Nat.le_of_ble_eq_true rfl) dX5_correct_10 ⟨(by first | exact Nat.le_of_ble_eq_true rfl | omega | (show _ ≤ (0); omega)), (by first | exact Nat.le_of_ble_eq_true rfl | omega | (show _ ≤ (0); omega))⟩ (fun v9 w9 H locs hq G => ?_)
  obtain ⟨rfl, rfl⟩ := hq
  refine W.eq (g2 := F0 mm 13 ls [.int (iI (1)), .ref mo]) rfl ?_
  have G : zG D AA ss.heap [(mo, .inr (5, [.int (iI (th)), .int (iI (((n : Nat) : Int))), .ref mnw, .ref mte, .ref mge, .ref mus, .int (iI (((p : Nat) : Int))), .int (iI (((st : Nat) : Int))), .int (iI (cc)), .int (iI (bc)), .ref mco, .ref mfl, .ref mba, .ref mdu, .long (lI (pot)), .long (lI (gr)), .long (lI (bk)), .int (iI (btw)), .int (iI (bhd))]))] H locs := G
  refine z_if_ne (tgt := 20) E dX5_correct_13 (by decide) (by decide) (fun c_13 => ?_) (fun c_13 => absurd c_13 (by decide))
  refine z_iload_n E hl 3 rfl dX5_correct_20 rfl ?_
  refine z_i2l E dX5_correct_21 ⟨by omega, by omega⟩ ?_
  refine z_lconst E (z := 0) dX5_correct_22 (by decide) ?_
  refine z_ldc2 E (n := (5000)) zw_191 (by decide +kernel) dX5_correct_23 ?_
  refine z_callS E G hl.1 (c_X5_isIn l D k4 a 0 5000 (by omega) ⟨⟨by omega, by omega⟩, ⟨by omega, by omega⟩, ⟨by omega, by omega⟩⟩) kS_X5_42 ⟨rfl, rfl, Nat.le_of_ble_eq_true rfl, Nat.le_of_ble_eq_true rfl⟩ [] rfl (by decide) rfl rfl (Nat.le_of_ble_eq_true rfl) dX5_correct_26 ⟨(by first | exact Nat.le_of_ble_eq_true rfl | omega | (show _ ≤ (0); omega)), (by first | exact Nat.le_of_ble_eq_true rfl | omega | (show _ ≤ (0); omega))⟩ (fun v9 w9 H locs hq G => ?_)
  obtain ⟨rfl, rfl⟩ := hq
  refine W.eq (g2 := F0 mm 29 ls [.int (iI (1)), .ref mo]) rfl ?_
  have G : zG D AA ss.heap [(mo, .inr (5, [.int (iI (th)), .int (iI (((n : Nat) : Int))), .ref mnw, .ref mte, .ref mge, .ref mus, .int (iI (((p : Nat) : Int))), .int (iI (((st : Nat) : Int))), .int (iI (cc)), .int (iI (bc)), .ref mco, .ref mfl, .ref mba, .ref mdu, .long (lI (pot)), .long (lI (gr)), .long (lI (bk)), .int (iI (btw)), .int (iI (bhd))]))] H locs := G
  refine z_if_eq (tgt := 45) E dX5_correct_29 (by decide) (by decide) (fun c_29 => absurd c_29 (by decide)) (fun c_29 => ?_)
  refine z_iload E hl 4 rfl dX5_correct_32 ?_
  refine z_i2l E dX5_correct_34 ⟨by omega, by omega⟩ ?_
  refine z_lconst E (z := 0) dX5_correct_35 (by decide) ?_
  refine z_ldc2 E (n := (5000)) zw_191 (by decide +kernel) dX5_correct_36 ?_
  refine z_callS E G hl.1 (c_X5_isInF l D k4 b 0 5000 (by omega) ⟨⟨by omega, by omega⟩, ⟨by omega, by omega⟩, ⟨by omega, by omega⟩⟩) kS_X5_42 ⟨rfl, rfl, Nat.le_of_ble_eq_true rfl, Nat.le_of_ble_eq_true rfl⟩ [] rfl (by decide) rfl rfl (Nat.le_of_ble_eq_true rfl) dX5_correct_39 ⟨(by first | exact Nat.le_of_ble_eq_true rfl | omega | (show _ ≤ (0); omega)), (by first | exact Nat.le_of_ble_eq_true rfl | omega | (show _ ≤ (0); omega))⟩ (fun v9 w9 H locs hq G => ?_)
  obtain ⟨rfl, rfl⟩ := hq
  refine W.eq (g2 := F0 mm 42 ls [.int (iI (0)), .ref mo]) rfl ?_
  have G : zG D AA ss.heap [(mo, .inr (5, [.int (iI (th)), .int (iI (((n : Nat) : Int))), .ref mnw, .ref mte, .ref mge, .ref mus, .int (iI (((p : Nat) : Int))), .int (iI (((st : Nat) : Int))), .int (iI (cc)), .int (iI (bc)), .ref mco, .ref mfl, .ref mba, .ref mdu, .long (lI (pot)), .long (lI (gr)), .long (lI (bk)), .int (iI (btw)), .int (iI (bhd))]))] H locs := G
  refine z_if_ne (tgt := 49) E dX5_correct_42 (by decide) (by decide) (fun c_42 => absurd c_42 (by decide)) (fun c_42 => ?_)
  refine z_iconst E dX5_correct_45 ?_
  refine z_goto (tgt := 70) E dX5_correct_46 (by decide) ?_
  refine kp_X5_35 E G 0 rfl (Nat.le_of_ble_eq_true rfl) dX5_correct_70 (fun H locs G => ?_)
  have G : zG D AA ss.heap [(mo, .inr (5, [.int (iI (2)), .int (iI (((n : Nat) : Int))), .ref mnw, .ref mte, .ref mge, .ref mus, .int (iI (((p : Nat) : Int))), .int (iI (((st : Nat) : Int))), .int (iI (cc)), .int (iI (bc)), .ref mco, .ref mfl, .ref mba, .ref mdu, .long (lI (pot)), .long (lI (gr)), .long (lI (bk)), .int (iI (btw)), .int (iI (bhd))]))] H locs := G
  refine z_aload_n E hl 0 rfl dX5_correct_73 rfl ?_
  refine kg_X5_35 E G 0 rfl rfl dX5_correct_74 ?_
  refine z_if_eq (tgt := 82) E dX5_correct_77 (by decide) (by decide) (fun c_77 => absurd c_77 (by decide)) (fun c_77 => ?_)
  refine z_lconst E (z := 0) dX5_correct_80 (by decide) ?_
  exact z_lret (w' := [(mo, .inr (5, [.int (iI (2)), .int (iI (((n : Nat) : Int))), .ref mnw, .ref mte, .ref mge, .ref mus, .int (iI (((p : Nat) : Int))), .int (iI (((st : Nat) : Int))), .int (iI (cc)), .int (iI (bc)), .ref mco, .ref mfl, .ref mba, .ref mdu, .long (lI (pot)), .long (lI (gr)), .long (lI (bk)), .int (iI (btw)), .int (iI (bhd))]))]) (v := 0) E hr hlocks G dX5_correct_81 (by omega) (by omega) (zx0 rfl) ⟨rfl, rfl⟩

def q_c_X5_correct_4 (k4 : Nat → ClassId) (mo mnw mte mge mus mco mfl mba mdu : Nat) (th : Int) (n p st : Nat) (cc bc pot gr bk btw bhd : Int) (m k : Nat) (a b : Int) : Option Value → va_W → Prop := (fun (v9 : Option Value) (w9 : va_W) => v9 = some (.long (lI (0))) ∧ w9 = [(mo, .inr (5, [.int (iI (3)), .int (iI (((n : Nat) : Int))), .ref mnw, .ref mte, .ref mge, .ref mus, .int (iI (((p : Nat) : Int))), .int (iI (((st : Nat) : Int))), .int (iI (cc)), .int (iI (bc)), .ref mco, .ref mfl, .ref mba, .ref mdu, .long (lI (pot)), .long (lI (gr)), .long (lI (bk)), .int (iI (btw)), .int (iI (bhd))]))])
set_option maxHeartbeats 4000000 in
set_option maxRecDepth 100000 in
theorem c_X5_correct_4 (l : Launch) (D : va_G) (k4 : Nat → ClassId) (mo mnw mte mge mus mco mfl mba mdu : Nat) (th : Int) (n p st : Nat) (cc bc pot gr bk btw bhd : Int) (m k : Nat) (a b : Int) (hn : n ≤ 6) (hm : m < n) (hk : k < 48) (ha : 0 ≤ a ∧ a ≤ 5000) (hb : 0 ≤ b ∧ b ≤ 5000) (hkp : p ≤ k ∨ k < st) (hp48 : p ≤ 48 ∧ st ≤ 48) : zC l yX5_correct (zW yX5_correct cX5_correct 9 (some .long)) ({ frames := 2, cells := 0, slots := 0, locals := 46 } : Room) D k4 [.ref mo, .int (iI (((m : Nat) : Int))), .int (iI (((k : Nat) : Int))), .int (iI (a)), .int (iI (b))] [(mo, .inr (5, [.int (iI (th)), .int (iI (((n : Nat) : Int))), .ref mnw, .ref mte, .ref mge, .ref mus, .int (iI (((p : Nat) : Int))), .int (iI (((st : Nat) : Int))), .int (iI (cc)), .int (iI (bc)), .ref mco, .ref mfl, .ref mba, .ref mdu, .long (lI (pot)), .long (lI (gr)), .long (lI (bk)), .int (iI (btw)), .int (iI (bhd))]))] (0) (0) (q_c_X5_correct_4 k4 mo mnw mte mge mus mco mfl mba mdu th n p st cc bc pot gr bk btw bhd m k a b) := by
  refine zC_of (cc := cX5_correct) (by decide) (Nat.le_of_ble_eq_true rfl) (fun pp ee ss mm bl me co AA H locs ls E hr hlocks hin G hl => ?_)
  have hl : lv_has ls 9 [(0, .ref mo), (1, .int (iI (((m : Nat) : Int)))), (2, .int (iI (((k : Nat) : Int)))), (3, .int (iI (a))), (4, .int (iI (b)))] := hl
  refine z_aload_n E hl 0 rfl dX5_correct_0 rfl ?_
  refine z_aload_n E hl 0 rfl dX5_correct_1 rfl ?_
  refine z_iload_n E hl 1 rfl dX5_correct_2 rfl ?_
  refine z_callV E G hl.1 (c_X5_isMember l D k4 mo mnw mte mge mus mco mfl mba mdu th n p st cc bc pot gr bk btw bhd (((m : Nat) : Int)) (by omega) ⟨by omega, by omega⟩ hn) kV_X5_55 ⟨rfl, rfl, Nat.le_of_ble_eq_true rfl, Nat.le_of_ble_eq_true rfl⟩ [0] rfl (by decide) 0 5 rfl rfl rfl rfl rfl (Nat.le_of_ble_eq_true rfl) dX5_correct_3 ⟨(by first | exact Nat.le_of_ble_eq_true rfl | omega | (show _ ≤ (0); omega)), (by first | exact Nat.le_of_ble_eq_true rfl | omega | (show _ ≤ (0); omega))⟩ (fun v9 w9 H locs hq G => ?_)
  obtain ⟨rfl, rfl⟩ := hq
  refine W.eq (g2 := F0 mm 6 ls [.int (iI (1)), .ref mo]) rfl ?_
  have G : zG D AA ss.heap [(mo, .inr (5, [.int (iI (th)), .int (iI (((n : Nat) : Int))), .ref mnw, .ref mte, .ref mge, .ref mus, .int (iI (((p : Nat) : Int))), .int (iI (((st : Nat) : Int))), .int (iI (cc)), .int (iI (bc)), .ref mco, .ref mfl, .ref mba, .ref mdu, .long (lI (pot)), .long (lI (gr)), .long (lI (bk)), .int (iI (btw)), .int (iI (bhd))]))] H locs := G
  refine z_if_eq (tgt := 16) E dX5_correct_6 (by decide) (by decide) (fun c_6 => absurd c_6 (by decide)) (fun c_6 => ?_)
  refine z_iload_n E hl 2 rfl dX5_correct_9 rfl ?_
  refine z_callS E G hl.1 (c_X5_isSlot l D k4 (((k : Nat) : Int)) (by omega) ⟨by omega, by omega⟩) kS_X5_147 ⟨rfl, rfl, Nat.le_of_ble_eq_true rfl, Nat.le_of_ble_eq_true rfl⟩ [] rfl (by decide) rfl rfl (Nat.le_of_ble_eq_true rfl) dX5_correct_10 ⟨(by first | exact Nat.le_of_ble_eq_true rfl | omega | (show _ ≤ (0); omega)), (by first | exact Nat.le_of_ble_eq_true rfl | omega | (show _ ≤ (0); omega))⟩ (fun v9 w9 H locs hq G => ?_)
  obtain ⟨rfl, rfl⟩ := hq
  refine W.eq (g2 := F0 mm 13 ls [.int (iI (1)), .ref mo]) rfl ?_
  have G : zG D AA ss.heap [(mo, .inr (5, [.int (iI (th)), .int (iI (((n : Nat) : Int))), .ref mnw, .ref mte, .ref mge, .ref mus, .int (iI (((p : Nat) : Int))), .int (iI (((st : Nat) : Int))), .int (iI (cc)), .int (iI (bc)), .ref mco, .ref mfl, .ref mba, .ref mdu, .long (lI (pot)), .long (lI (gr)), .long (lI (bk)), .int (iI (btw)), .int (iI (bhd))]))] H locs := G
  refine z_if_ne (tgt := 20) E dX5_correct_13 (by decide) (by decide) (fun c_13 => ?_) (fun c_13 => absurd c_13 (by decide))
  refine z_iload_n E hl 3 rfl dX5_correct_20 rfl ?_
  refine z_i2l E dX5_correct_21 ⟨by omega, by omega⟩ ?_
  refine z_lconst E (z := 0) dX5_correct_22 (by decide) ?_
  refine z_ldc2 E (n := (5000)) zw_191 (by decide +kernel) dX5_correct_23 ?_
  refine z_callS E G hl.1 (c_X5_isIn l D k4 a 0 5000 (by omega) ⟨⟨by omega, by omega⟩, ⟨by omega, by omega⟩, ⟨by omega, by omega⟩⟩) kS_X5_42 ⟨rfl, rfl, Nat.le_of_ble_eq_true rfl, Nat.le_of_ble_eq_true rfl⟩ [] rfl (by decide) rfl rfl (Nat.le_of_ble_eq_true rfl) dX5_correct_26 ⟨(by first | exact Nat.le_of_ble_eq_true rfl | omega | (show _ ≤ (0); omega)), (by first | exact Nat.le_of_ble_eq_true rfl | omega | (show _ ≤ (0); omega))⟩ (fun v9 w9 H locs hq G => ?_)
  obtain ⟨rfl, rfl⟩ := hq
  refine W.eq (g2 := F0 mm 29 ls [.int (iI (1)), .ref mo]) rfl ?_
  have G : zG D AA ss.heap [(mo, .inr (5, [.int (iI (th)), .int (iI (((n : Nat) : Int))), .ref mnw, .ref mte, .ref mge, .ref mus, .int (iI (((p : Nat) : Int))), .int (iI (((st : Nat) : Int))), .int (iI (cc)), .int (iI (bc)), .ref mco, .ref mfl, .ref mba, .ref mdu, .long (lI (pot)), .long (lI (gr)), .long (lI (bk)), .int (iI (btw)), .int (iI (bhd))]))] H locs := G
  refine z_if_eq (tgt := 45) E dX5_correct_29 (by decide) (by decide) (fun c_29 => absurd c_29 (by decide)) (fun c_29 => ?_)
  refine z_iload E hl 4 rfl dX5_correct_32 ?_
  refine z_i2l E dX5_correct_34 ⟨by omega, by omega⟩ ?_
  refine z_lconst E (z := 0) dX5_correct_35 (by decide) ?_
  refine z_ldc2 E (n := (5000)) zw_191 (by decide +kernel) dX5_correct_36 ?_
  refine z_callS E G hl.1 (c_X5_isIn l D k4 b 0 5000 (by omega) ⟨⟨by omega, by omega⟩, ⟨by omega, by omega⟩, ⟨by omega, by omega⟩⟩) kS_X5_42 ⟨rfl, rfl, Nat.le_of_ble_eq_true rfl, Nat.le_of_ble_eq_true rfl⟩ [] rfl (by decide) rfl rfl (Nat.le_of_ble_eq_true rfl) dX5_correct_39 ⟨(by first | exact Nat.le_of_ble_eq_true rfl | omega | (show _ ≤ (0); omega)), (by first | exact Nat.le_of_ble_eq_true rfl | omega | (show _ ≤ (0); omega))⟩ (fun v9 w9 H locs hq G => ?_)
  obtain ⟨rfl, rfl⟩ := hq
  refine W.eq (g2 := F0 mm 42 ls [.int (iI (1)), .ref mo]) rfl ?_
  have G : zG D AA ss.heap [(mo, .inr (5, [.int (iI (th)), .int (iI (((n : Nat) : Int))), .ref mnw, .ref mte, .ref mge, .ref mus, .int (iI (((p : Nat) : Int))), .int (iI (((st : Nat) : Int))), .int (iI (cc)), .int (iI (bc)), .ref mco, .ref mfl, .ref mba, .ref mdu, .long (lI (pot)), .long (lI (gr)), .long (lI (bk)), .int (iI (btw)), .int (iI (bhd))]))] H locs := G
  refine z_if_ne (tgt := 49) E dX5_correct_42 (by decide) (by decide) (fun c_42 => ?_) (fun c_42 => absurd c_42 (by decide))
  refine z_iload_n E hl 2 rfl dX5_correct_49 rfl ?_
  refine z_aload_n E hl 0 rfl dX5_correct_50 rfl ?_
  refine kg_X5_48 E G 0 rfl rfl dX5_correct_51 ?_
  refine z_icmp_ge (tgt := 65) E dX5_correct_54 (by decide) ⟨by omega, by omega⟩ ⟨by omega, by omega⟩ (fun c_54 => ?_) (fun c_54 => ?_)
  · skip
    refine z_iconst E dX5_correct_65 ?_
    refine z_goto (tgt := 70) E dX5_correct_66 (by decide) ?_
    refine kp_X5_35 E G 0 rfl (Nat.le_of_ble_eq_true rfl) dX5_correct_70 (fun H locs G => ?_)
    have G : zG D AA ss.heap [(mo, .inr (5, [.int (iI (3)), .int (iI (((n : Nat) : Int))), .ref mnw, .ref mte, .ref mge, .ref mus, .int (iI (((p : Nat) : Int))), .int (iI (((st : Nat) : Int))), .int (iI (cc)), .int (iI (bc)), .ref mco, .ref mfl, .ref mba, .ref mdu, .long (lI (pot)), .long (lI (gr)), .long (lI (bk)), .int (iI (btw)), .int (iI (bhd))]))] H locs := G
    refine z_aload_n E hl 0 rfl dX5_correct_73 rfl ?_
    refine kg_X5_35 E G 0 rfl rfl dX5_correct_74 ?_
    refine z_if_eq (tgt := 82) E dX5_correct_77 (by decide) (by decide) (fun c_77 => absurd c_77 (by decide)) (fun c_77 => ?_)
    refine z_lconst E (z := 0) dX5_correct_80 (by decide) ?_
    exact z_lret (w' := [(mo, .inr (5, [.int (iI (3)), .int (iI (((n : Nat) : Int))), .ref mnw, .ref mte, .ref mge, .ref mus, .int (iI (((p : Nat) : Int))), .int (iI (((st : Nat) : Int))), .int (iI (cc)), .int (iI (bc)), .ref mco, .ref mfl, .ref mba, .ref mdu, .long (lI (pot)), .long (lI (gr)), .long (lI (bk)), .int (iI (btw)), .int (iI (bhd))]))]) (v := 0) E hr hlocks G dX5_correct_81 (by omega) (by omega) (zx0 rfl) ⟨rfl, rfl⟩
  · skip
    refine z_iload_n E hl 2 rfl dX5_correct_57 rfl ?_
    refine z_aload_n E hl 0 rfl dX5_correct_58 rfl ?_
    refine kg_X5_153 E G 0 rfl rfl dX5_correct_59 ?_
    refine z_icmp_ge (tgt := 69) E dX5_correct_62 (by decide) ⟨by omega, by omega⟩ ⟨by omega, by omega⟩ (fun c_62 => absurd c_62 (by omega)) (fun c_62 => ?_)
    refine z_iconst E dX5_correct_65 ?_
    refine z_goto (tgt := 70) E dX5_correct_66 (by decide) ?_
    refine kp_X5_35 E G 0 rfl (Nat.le_of_ble_eq_true rfl) dX5_correct_70 (fun H locs G => ?_)
    have G : zG D AA ss.heap [(mo, .inr (5, [.int (iI (3)), .int (iI (((n : Nat) : Int))), .ref mnw, .ref mte, .ref mge, .ref mus, .int (iI (((p : Nat) : Int))), .int (iI (((st : Nat) : Int))), .int (iI (cc)), .int (iI (bc)), .ref mco, .ref mfl, .ref mba, .ref mdu, .long (lI (pot)), .long (lI (gr)), .long (lI (bk)), .int (iI (btw)), .int (iI (bhd))]))] H locs := G
    refine z_aload_n E hl 0 rfl dX5_correct_73 rfl ?_
    refine kg_X5_35 E G 0 rfl rfl dX5_correct_74 ?_
    refine z_if_eq (tgt := 82) E dX5_correct_77 (by decide) (by decide) (fun c_77 => absurd c_77 (by decide)) (fun c_77 => ?_)
    refine z_lconst E (z := 0) dX5_correct_80 (by decide) ?_
    exact z_lret (w' := [(mo, .inr (5, [.int (iI (3)), .int (iI (((n : Nat) : Int))), .ref mnw, .ref mte, .ref mge, .ref mus, .int (iI (((p : Nat) : Int))), .int (iI (((st : Nat) : Int))), .int (iI (cc)), .int (iI (bc)), .ref mco, .ref mfl, .ref mba, .ref mdu, .long (lI (pot)), .long (lI (gr)), .long (lI (bk)), .int (iI (btw)), .int (iI (bhd))]))]) (v := 0) E hr hlocks G dX5_correct_81 (by omega) (by omega) (zx0 rfl) ⟨rfl, rfl⟩

def q_c_X5_would (k4 : Nat → ClassId) (mo mnw mte mge mus mco mfl mba mdu : Nat) (th : Int) (n p st : Nat) (cc bc pot gr bk btw bhd : Int) (m : Nat) (a : Int) (NW GE US : Nat → Int) : Option Value → va_W → Prop := (fun (v9 : Option Value) (w9 : va_W) => ∃ (b1 b2 : Int), v9 = some (.int (iI (CV (fun x0 => GE (48 * x0 + p)) (fun x0 => US (48 * x0 + p)) (up NW 0 a) bc (m * 8 + 7)))) ∧ w9 = [(mo, .inr (5, [.int (iI (0)), .int (iI (((n : Nat) : Int))), .ref mnw, .ref mte, .ref mge, .ref mus, .int (iI (((p : Nat) : Int))), .int (iI (((st : Nat) : Int))), .int (iI (cc)), .int (iI (bc)), .ref mco, .ref mfl, .ref mba, .ref mdu, .long (lI (pot)), .long (lI (gr)), .long (lI (bk)), .int (iI (b1)), .int (iI (b2))])), (mnw, .inl (k4 0, 19, .inl (fun i9 => iI (NW i9)))), (mge, .inl (k4 0, 288, .inl (fun i9 => iI (GE i9)))), (mus, .inl (k4 0, 288, .inl (fun i9 => iI (US i9))))])
set_option maxHeartbeats 4000000 in
set_option maxRecDepth 100000 in
theorem c_X5_would (l : Launch) (D : va_G) (k4 : Nat → ClassId) (mo mnw mte mge mus mco mfl mba mdu : Nat) (th : Int) (n p st : Nat) (cc bc pot gr bk btw bhd : Int) (m : Nat) (a : Int) (NW GE US : Nat → Int) (hn : n ≤ 6) (hm : m < n) (ha : 0 ≤ a ∧ a ≤ 3) (hp : p < 48) (hg : rdOK (fun x0 => GE (48 * x0 + p))) (hu : rdOK (fun x0 => US (48 * x0 + p))) (g0 : nul n (fun x0 => GE (48 * x0 + p))) (u0 : nul n (fun x0 => US (48 * x0 + p))) (ht : tOK NW) (hc : 0 ≤ bc ∧ bc ≤ NW 4) : zC l yX5_would (zW yX5_would cX5_would 3 (some .int)) ({ frames := 6, cells := 16 + 2 * rdC (fun x0 => GE (48 * x0 + p)) (fun x0 => US (48 * x0 + p)), slots := 11 * (16 + 2 * rdC (fun x0 => GE (48 * x0 + p)) (fun x0 => US (48 * x0 + p))), locals := 169 } : Room) D k4 [.ref mo, .int (iI (((m : Nat) : Int))), .int (iI (a))] [(mo, .inr (5, [.int (iI (th)), .int (iI (((n : Nat) : Int))), .ref mnw, .ref mte, .ref mge, .ref mus, .int (iI (((p : Nat) : Int))), .int (iI (((st : Nat) : Int))), .int (iI (cc)), .int (iI (bc)), .ref mco, .ref mfl, .ref mba, .ref mdu, .long (lI (pot)), .long (lI (gr)), .long (lI (bk)), .int (iI (btw)), .int (iI (bhd))])), (mnw, .inl (k4 0, 19, .inl (fun i9 => iI (NW i9)))), (mge, .inl (k4 0, 288, .inl (fun i9 => iI (GE i9)))), (mus, .inl (k4 0, 288, .inl (fun i9 => iI (US i9))))] (16 + 2 * rdC (fun x0 => GE (48 * x0 + p)) (fun x0 => US (48 * x0 + p))) (11 * (16 + 2 * rdC (fun x0 => GE (48 * x0 + p)) (fun x0 => US (48 * x0 + p)))) (q_c_X5_would k4 mo mnw mte mge mus mco mfl mba mdu th n p st cc bc pot gr bk btw bhd m a NW GE US) := by
  refine zC_of (cc := cX5_would) (by decide) (Nat.le_of_ble_eq_true rfl) (fun pp ee ss mm bl me co AA H locs ls E hr hlocks hin G hl => ?_)
  have hl : lv_has ls 3 [(0, .ref mo), (1, .int (iI (((m : Nat) : Int)))), (2, .int (iI (a)))] := hl
  have yb := clY_b (t := up NW 0 (a)) (cb := bc) hg hu (tOK_rule ht ha) (by rw [up_n (by decide)]; exact hc)
  refine z_aload_n E hl 0 rfl dX5_would_0 rfl ?_
  refine z_aload_n E hl 0 rfl dX5_would_1 rfl ?_
  refine z_iload_n E hl 1 rfl dX5_would_2 rfl ?_
  refine z_callV E G hl.1 (c_X5_isMember l D k4 mo mnw mte mge mus mco mfl mba mdu th n p st cc bc pot gr bk btw bhd (((m : Nat) : Int)) (by omega) ⟨by omega, by omega⟩ hn) kV_X5_55 ⟨rfl, rfl, Nat.le_of_ble_eq_true rfl, Nat.le_of_ble_eq_true rfl⟩ [0] rfl (by decide) 0 5 rfl rfl rfl rfl rfl (Nat.le_of_ble_eq_true rfl) dX5_would_3 ⟨(by first | exact Nat.le_of_ble_eq_true rfl | omega | (show _ ≤ (16 + 2 * rdC (fun x0 => GE (48 * x0 + p)) (fun x0 => US (48 * x0 + p))); omega)), (by first | exact Nat.le_of_ble_eq_true rfl | omega | (show _ ≤ (11 * (16 + 2 * rdC (fun x0 => GE (48 * x0 + p)) (fun x0 => US (48 * x0 + p)))); omega))⟩ (fun v9 w9 H locs hq G => ?_)
  obtain ⟨rfl, rfl⟩ := hq
  refine W.eq (g2 := F0 mm 6 ls [.int (iI (1)), .ref mo]) rfl ?_
  have G : zG D AA ss.heap [(mo, .inr (5, [.int (iI (th)), .int (iI (((n : Nat) : Int))), .ref mnw, .ref mte, .ref mge, .ref mus, .int (iI (((p : Nat) : Int))), .int (iI (((st : Nat) : Int))), .int (iI (cc)), .int (iI (bc)), .ref mco, .ref mfl, .ref mba, .ref mdu, .long (lI (pot)), .long (lI (gr)), .long (lI (bk)), .int (iI (btw)), .int (iI (bhd))])), (mnw, .inl (k4 0, 19, .inl (fun i9 => iI (NW i9)))), (mge, .inl (k4 0, 288, .inl (fun i9 => iI (GE i9)))), (mus, .inl (k4 0, 288, .inl (fun i9 => iI (US i9))))] H locs := G
  refine z_if_ne (tgt := 13) E dX5_would_6 (by decide) (by decide) (fun c_6 => ?_) (fun c_6 => absurd c_6 (by decide))
  refine z_iload_n E hl 2 rfl dX5_would_13 rfl ?_
  refine z_i2l E dX5_would_14 ⟨by omega, by omega⟩ ?_
  refine z_lconst E (z := 0) dX5_would_15 (by decide) ?_
  refine z_ldc2 E (n := (3)) zw_156 (by decide +kernel) dX5_would_16 ?_
  refine z_callS E G hl.1 (c_X5_isIn l D k4 a 0 3 (by omega) ⟨⟨by omega, by omega⟩, ⟨by omega, by omega⟩, ⟨by omega, by omega⟩⟩) kS_X5_42 ⟨rfl, rfl, Nat.le_of_ble_eq_true rfl, Nat.le_of_ble_eq_true rfl⟩ [] rfl (by decide) rfl rfl (Nat.le_of_ble_eq_true rfl) dX5_would_19 ⟨(by first | exact Nat.le_of_ble_eq_true rfl | omega | (show _ ≤ (16 + 2 * rdC (fun x0 => GE (48 * x0 + p)) (fun x0 => US (48 * x0 + p))); omega)), (by first | exact Nat.le_of_ble_eq_true rfl | omega | (show _ ≤ (11 * (16 + 2 * rdC (fun x0 => GE (48 * x0 + p)) (fun x0 => US (48 * x0 + p)))); omega))⟩ (fun v9 w9 H locs hq G => ?_)
  obtain ⟨rfl, rfl⟩ := hq
  refine W.eq (g2 := F0 mm 22 ls [.int (iI (1)), .ref mo]) rfl ?_
  have G : zG D AA ss.heap [(mo, .inr (5, [.int (iI (th)), .int (iI (((n : Nat) : Int))), .ref mnw, .ref mte, .ref mge, .ref mus, .int (iI (((p : Nat) : Int))), .int (iI (((st : Nat) : Int))), .int (iI (cc)), .int (iI (bc)), .ref mco, .ref mfl, .ref mba, .ref mdu, .long (lI (pot)), .long (lI (gr)), .long (lI (bk)), .int (iI (btw)), .int (iI (bhd))])), (mnw, .inl (k4 0, 19, .inl (fun i9 => iI (NW i9)))), (mge, .inl (k4 0, 288, .inl (fun i9 => iI (GE i9)))), (mus, .inl (k4 0, 288, .inl (fun i9 => iI (US i9))))] H locs := G
  refine z_if_ne (tgt := 29) E dX5_would_22 (by decide) (by decide) (fun c_22 => ?_) (fun c_22 => absurd c_22 (by decide))
  refine z_aload_n E hl 0 rfl dX5_would_29 rfl ?_
  refine kg_X5_48 E G 0 rfl rfl dX5_would_30 ?_
  refine z_bipush E dX5_would_33 (by decide) ?_
  refine z_icmp_ne (tgt := 42) E dX5_would_35 (by decide) ⟨by omega, by omega⟩ (by decide) (fun c_35 => ?_) (fun c_35 => absurd c_35 (by omega))
  refine z_iconst E dX5_would_42 ?_
  refine kp_X5_35 E G 0 rfl (Nat.le_of_ble_eq_true rfl) dX5_would_43 (fun H locs G => ?_)
  have G : zG D AA ss.heap [(mo, .inr (5, [.int (iI (0)), .int (iI (((n : Nat) : Int))), .ref mnw, .ref mte, .ref mge, .ref mus, .int (iI (((p : Nat) : Int))), .int (iI (((st : Nat) : Int))), .int (iI (cc)), .int (iI (bc)), .ref mco, .ref mfl, .ref mba, .ref mdu, .long (lI (pot)), .long (lI (gr)), .long (lI (bk)), .int (iI (btw)), .int (iI (bhd))])), (mnw, .inl (k4 0, 19, .inl (fun i9 => iI (NW i9)))), (mge, .inl (k4 0, 288, .inl (fun i9 => iI (GE i9)))), (mus, .inl (k4 0, 288, .inl (fun i9 => iI (US i9))))] H locs := G
  refine z_aload_n E hl 0 rfl dX5_would_46 rfl ?_
  refine kg_X5_35 E G 0 rfl rfl dX5_would_47 ?_
  refine z_if_ne (tgt := 62) E dX5_would_50 (by decide) (by decide) (fun c_50 => absurd c_50 (by decide)) (fun c_50 => ?_)
  refine z_aload_n E hl 0 rfl dX5_would_53 rfl ?_
  refine z_iload_n E hl 1 rfl dX5_would_54 rfl ?_
  refine z_iload_n E hl 2 rfl dX5_would_55 rfl ?_
  refine z_callV E G hl.1 (c_X5_wouldBe l D k4 mo mnw mte mge mus mco mfl mba mdu 0 n p st cc bc pot gr bk btw bhd m a NW GE US hn hm hp hg hu g0 u0 ht hc ha) kV_X5_166 ⟨rfl, rfl, Nat.le_of_ble_eq_true rfl, Nat.le_of_ble_eq_true rfl⟩ [0, 1, 2, 3] rfl (by decide) 0 5 rfl rfl rfl rfl rfl (Nat.le_of_ble_eq_true rfl) dX5_would_56 ⟨(by first | exact Nat.le_of_ble_eq_true rfl | omega | (show _ ≤ (16 + 2 * rdC (fun x0 => GE (48 * x0 + p)) (fun x0 => US (48 * x0 + p))); omega)), (by first | exact Nat.le_of_ble_eq_true rfl | omega | (show _ ≤ (11 * (16 + 2 * rdC (fun x0 => GE (48 * x0 + p)) (fun x0 => US (48 * x0 + p)))); omega))⟩ (fun v9 w9 H locs hq G => ?_)
  obtain ⟨rfl, rfl⟩ := hq
  refine W.eq (g2 := F0 mm 59 ls [.int (iI ((CV (fun x0 => GE (48 * x0 + p)) (fun x0 => US (48 * x0 + p)) (up NW 0 a) bc) (m * 8 + 7)))]) rfl ?_
  have G : zG D AA ss.heap [(mo, .inr (5, [.int (iI (0)), .int (iI (((n : Nat) : Int))), .ref mnw, .ref mte, .ref mge, .ref mus, .int (iI (((p : Nat) : Int))), .int (iI (((st : Nat) : Int))), .int (iI (cc)), .int (iI (bc)), .ref mco, .ref mfl, .ref mba, .ref mdu, .long (lI (pot)), .long (lI (gr)), .long (lI (bk)), .int (iI (betW (fun x0 => GE (48 * x0 + p)) (fun x0 => US (48 * x0 + p)))), .int (iI (CAft (fun x0 => GE (48 * x0 + p)) (fun x0 => US (48 * x0 + p)) (up NW 0 a) bc))])), (mnw, .inl (k4 0, 19, .inl (fun i9 => iI (NW i9)))), (mge, .inl (k4 0, 288, .inl (fun i9 => iI (GE i9)))), (mus, .inl (k4 0, 288, .inl (fun i9 => iI (US i9))))] H locs := G
  refine z_goto (tgt := 63) E dX5_would_59 (by decide) ?_
  exact z_iret (w' := [(mo, .inr (5, [.int (iI (0)), .int (iI (((n : Nat) : Int))), .ref mnw, .ref mte, .ref mge, .ref mus, .int (iI (((p : Nat) : Int))), .int (iI (((st : Nat) : Int))), .int (iI (cc)), .int (iI (bc)), .ref mco, .ref mfl, .ref mba, .ref mdu, .long (lI (pot)), .long (lI (gr)), .long (lI (bk)), .int (iI (betW (fun x0 => GE (48 * x0 + p)) (fun x0 => US (48 * x0 + p)))), .int (iI (CAft (fun x0 => GE (48 * x0 + p)) (fun x0 => US (48 * x0 + p)) (up NW 0 a) bc))])), (mnw, .inl (k4 0, 19, .inl (fun i9 => iI (NW i9)))), (mge, .inl (k4 0, 288, .inl (fun i9 => iI (GE i9)))), (mus, .inl (k4 0, 288, .inl (fun i9 => iI (US i9))))]) (v := (CV (fun x0 => GE (48 * x0 + p)) (fun x0 => US (48 * x0 + p)) (up NW 0 a) bc) (m * 8 + 7)) E hr hlocks G dX5_would_63 (by omega) (by omega) (zx0 rfl) ⟨_, _, rfl, rfl⟩

def q_c_X5_would_0 (k4 : Nat → ClassId) (mo mnw mte mge mus mco mfl mba mdu : Nat) (th : Int) (n p st : Nat) (cc bc pot gr bk btw bhd : Int) (m a : Int) : Option Value → va_W → Prop := (fun (v9 : Option Value) (w9 : va_W) => v9 = some (.int (iI (0))) ∧ w9 = [(mo, .inr (5, [.int (iI (1)), .int (iI (((n : Nat) : Int))), .ref mnw, .ref mte, .ref mge, .ref mus, .int (iI (((p : Nat) : Int))), .int (iI (((st : Nat) : Int))), .int (iI (cc)), .int (iI (bc)), .ref mco, .ref mfl, .ref mba, .ref mdu, .long (lI (pot)), .long (lI (gr)), .long (lI (bk)), .int (iI (btw)), .int (iI (bhd))]))])
set_option maxHeartbeats 4000000 in
set_option maxRecDepth 100000 in
theorem c_X5_would_0 (l : Launch) (D : va_G) (k4 : Nat → ClassId) (mo mnw mte mge mus mco mfl mba mdu : Nat) (th : Int) (n p st : Nat) (cc bc pot gr bk btw bhd : Int) (m a : Int) (hn : n ≤ 6) (hm : (-2147483648 ≤ m ∧ m ≤ 2147483647) ∧ (m < 0 ∨ (n : Int) ≤ m)) : zC l yX5_would (zW yX5_would cX5_would 3 (some .int)) ({ frames := 2, cells := 0, slots := 0, locals := 46 } : Room) D k4 [.ref mo, .int (iI (m)), .int (iI (a))] [(mo, .inr (5, [.int (iI (th)), .int (iI (((n : Nat) : Int))), .ref mnw, .ref mte, .ref mge, .ref mus, .int (iI (((p : Nat) : Int))), .int (iI (((st : Nat) : Int))), .int (iI (cc)), .int (iI (bc)), .ref mco, .ref mfl, .ref mba, .ref mdu, .long (lI (pot)), .long (lI (gr)), .long (lI (bk)), .int (iI (btw)), .int (iI (bhd))]))] (0) (0) (q_c_X5_would_0 k4 mo mnw mte mge mus mco mfl mba mdu th n p st cc bc pot gr bk btw bhd m a) := by
  refine zC_of (cc := cX5_would) (by decide) (Nat.le_of_ble_eq_true rfl) (fun pp ee ss mm bl me co AA H locs ls E hr hlocks hin G hl => ?_)
  have hl : lv_has ls 3 [(0, .ref mo), (1, .int (iI (m))), (2, .int (iI (a)))] := hl
  refine z_aload_n E hl 0 rfl dX5_would_0 rfl ?_
  refine z_aload_n E hl 0 rfl dX5_would_1 rfl ?_
  refine z_iload_n E hl 1 rfl dX5_would_2 rfl ?_
  refine z_callV E G hl.1 (c_X5_isMemberF l D k4 mo mnw mte mge mus mco mfl mba mdu th n p st cc bc pot gr bk btw bhd m (by omega) ⟨by omega, by omega⟩ hn) kV_X5_55 ⟨rfl, rfl, Nat.le_of_ble_eq_true rfl, Nat.le_of_ble_eq_true rfl⟩ [0] rfl (by decide) 0 5 rfl rfl rfl rfl rfl (Nat.le_of_ble_eq_true rfl) dX5_would_3 ⟨(by first | exact Nat.le_of_ble_eq_true rfl | omega | (show _ ≤ (0); omega)), (by first | exact Nat.le_of_ble_eq_true rfl | omega | (show _ ≤ (0); omega))⟩ (fun v9 w9 H locs hq G => ?_)
  obtain ⟨rfl, rfl⟩ := hq
  refine W.eq (g2 := F0 mm 6 ls [.int (iI (0)), .ref mo]) rfl ?_
  have G : zG D AA ss.heap [(mo, .inr (5, [.int (iI (th)), .int (iI (((n : Nat) : Int))), .ref mnw, .ref mte, .ref mge, .ref mus, .int (iI (((p : Nat) : Int))), .int (iI (((st : Nat) : Int))), .int (iI (cc)), .int (iI (bc)), .ref mco, .ref mfl, .ref mba, .ref mdu, .long (lI (pot)), .long (lI (gr)), .long (lI (bk)), .int (iI (btw)), .int (iI (bhd))]))] H locs := G
  refine z_if_ne (tgt := 13) E dX5_would_6 (by decide) (by decide) (fun c_6 => absurd c_6 (by decide)) (fun c_6 => ?_)
  refine z_iconst E dX5_would_9 ?_
  refine z_goto (tgt := 43) E dX5_would_10 (by decide) ?_
  refine kp_X5_35 E G 0 rfl (Nat.le_of_ble_eq_true rfl) dX5_would_43 (fun H locs G => ?_)
  have G : zG D AA ss.heap [(mo, .inr (5, [.int (iI (1)), .int (iI (((n : Nat) : Int))), .ref mnw, .ref mte, .ref mge, .ref mus, .int (iI (((p : Nat) : Int))), .int (iI (((st : Nat) : Int))), .int (iI (cc)), .int (iI (bc)), .ref mco, .ref mfl, .ref mba, .ref mdu, .long (lI (pot)), .long (lI (gr)), .long (lI (bk)), .int (iI (btw)), .int (iI (bhd))]))] H locs := G
  refine z_aload_n E hl 0 rfl dX5_would_46 rfl ?_
  refine kg_X5_35 E G 0 rfl rfl dX5_would_47 ?_
  refine z_if_ne (tgt := 62) E dX5_would_50 (by decide) (by decide) (fun c_50 => ?_) (fun c_50 => absurd c_50 (by decide))
  refine z_iconst E dX5_would_62 ?_
  exact z_iret (w' := [(mo, .inr (5, [.int (iI (1)), .int (iI (((n : Nat) : Int))), .ref mnw, .ref mte, .ref mge, .ref mus, .int (iI (((p : Nat) : Int))), .int (iI (((st : Nat) : Int))), .int (iI (cc)), .int (iI (bc)), .ref mco, .ref mfl, .ref mba, .ref mdu, .long (lI (pot)), .long (lI (gr)), .long (lI (bk)), .int (iI (btw)), .int (iI (bhd))]))]) (v := 0) E hr hlocks G dX5_would_63 (by omega) (by omega) (zx0 rfl) ⟨rfl, rfl⟩

def q_c_X5_would_1 (k4 : Nat → ClassId) (mo mnw mte mge mus mco mfl mba mdu : Nat) (th : Int) (n p st : Nat) (cc bc pot gr bk btw bhd : Int) (m : Nat) (a : Int) : Option Value → va_W → Prop := (fun (v9 : Option Value) (w9 : va_W) => v9 = some (.int (iI (0))) ∧ w9 = [(mo, .inr (5, [.int (iI (2)), .int (iI (((n : Nat) : Int))), .ref mnw, .ref mte, .ref mge, .ref mus, .int (iI (((p : Nat) : Int))), .int (iI (((st : Nat) : Int))), .int (iI (cc)), .int (iI (bc)), .ref mco, .ref mfl, .ref mba, .ref mdu, .long (lI (pot)), .long (lI (gr)), .long (lI (bk)), .int (iI (btw)), .int (iI (bhd))]))])
set_option maxHeartbeats 4000000 in
set_option maxRecDepth 100000 in
theorem c_X5_would_1 (l : Launch) (D : va_G) (k4 : Nat → ClassId) (mo mnw mte mge mus mco mfl mba mdu : Nat) (th : Int) (n p st : Nat) (cc bc pot gr bk btw bhd : Int) (m : Nat) (a : Int) (hn : n ≤ 6) (hm : m < n) (ha : (-2147483648 ≤ a ∧ a ≤ 2147483647) ∧ (a < 0 ∨ 3 < a)) : zC l yX5_would (zW yX5_would cX5_would 3 (some .int)) ({ frames := 2, cells := 0, slots := 0, locals := 46 } : Room) D k4 [.ref mo, .int (iI (((m : Nat) : Int))), .int (iI (a))] [(mo, .inr (5, [.int (iI (th)), .int (iI (((n : Nat) : Int))), .ref mnw, .ref mte, .ref mge, .ref mus, .int (iI (((p : Nat) : Int))), .int (iI (((st : Nat) : Int))), .int (iI (cc)), .int (iI (bc)), .ref mco, .ref mfl, .ref mba, .ref mdu, .long (lI (pot)), .long (lI (gr)), .long (lI (bk)), .int (iI (btw)), .int (iI (bhd))]))] (0) (0) (q_c_X5_would_1 k4 mo mnw mte mge mus mco mfl mba mdu th n p st cc bc pot gr bk btw bhd m a) := by
  refine zC_of (cc := cX5_would) (by decide) (Nat.le_of_ble_eq_true rfl) (fun pp ee ss mm bl me co AA H locs ls E hr hlocks hin G hl => ?_)
  have hl : lv_has ls 3 [(0, .ref mo), (1, .int (iI (((m : Nat) : Int)))), (2, .int (iI (a)))] := hl
  refine z_aload_n E hl 0 rfl dX5_would_0 rfl ?_
  refine z_aload_n E hl 0 rfl dX5_would_1 rfl ?_
  refine z_iload_n E hl 1 rfl dX5_would_2 rfl ?_
  refine z_callV E G hl.1 (c_X5_isMember l D k4 mo mnw mte mge mus mco mfl mba mdu th n p st cc bc pot gr bk btw bhd (((m : Nat) : Int)) (by omega) ⟨by omega, by omega⟩ hn) kV_X5_55 ⟨rfl, rfl, Nat.le_of_ble_eq_true rfl, Nat.le_of_ble_eq_true rfl⟩ [0] rfl (by decide) 0 5 rfl rfl rfl rfl rfl (Nat.le_of_ble_eq_true rfl) dX5_would_3 ⟨(by first | exact Nat.le_of_ble_eq_true rfl | omega | (show _ ≤ (0); omega)), (by first | exact Nat.le_of_ble_eq_true rfl | omega | (show _ ≤ (0); omega))⟩ (fun v9 w9 H locs hq G => ?_)
  obtain ⟨rfl, rfl⟩ := hq
  refine W.eq (g2 := F0 mm 6 ls [.int (iI (1)), .ref mo]) rfl ?_
  have G : zG D AA ss.heap [(mo, .inr (5, [.int (iI (th)), .int (iI (((n : Nat) : Int))), .ref mnw, .ref mte, .ref mge, .ref mus, .int (iI (((p : Nat) : Int))), .int (iI (((st : Nat) : Int))), .int (iI (cc)), .int (iI (bc)), .ref mco, .ref mfl, .ref mba, .ref mdu, .long (lI (pot)), .long (lI (gr)), .long (lI (bk)), .int (iI (btw)), .int (iI (bhd))]))] H locs := G
  refine z_if_ne (tgt := 13) E dX5_would_6 (by decide) (by decide) (fun c_6 => ?_) (fun c_6 => absurd c_6 (by decide))
  refine z_iload_n E hl 2 rfl dX5_would_13 rfl ?_
  refine z_i2l E dX5_would_14 ⟨by omega, by omega⟩ ?_
  refine z_lconst E (z := 0) dX5_would_15 (by decide) ?_
  refine z_ldc2 E (n := (3)) zw_156 (by decide +kernel) dX5_would_16 ?_
  refine z_callS E G hl.1 (c_X5_isInF l D k4 a 0 3 (by omega) ⟨⟨by omega, by omega⟩, ⟨by omega, by omega⟩, ⟨by omega, by omega⟩⟩) kS_X5_42 ⟨rfl, rfl, Nat.le_of_ble_eq_true rfl, Nat.le_of_ble_eq_true rfl⟩ [] rfl (by decide) rfl rfl (Nat.le_of_ble_eq_true rfl) dX5_would_19 ⟨(by first | exact Nat.le_of_ble_eq_true rfl | omega | (show _ ≤ (0); omega)), (by first | exact Nat.le_of_ble_eq_true rfl | omega | (show _ ≤ (0); omega))⟩ (fun v9 w9 H locs hq G => ?_)
  obtain ⟨rfl, rfl⟩ := hq
  refine W.eq (g2 := F0 mm 22 ls [.int (iI (0)), .ref mo]) rfl ?_
  have G : zG D AA ss.heap [(mo, .inr (5, [.int (iI (th)), .int (iI (((n : Nat) : Int))), .ref mnw, .ref mte, .ref mge, .ref mus, .int (iI (((p : Nat) : Int))), .int (iI (((st : Nat) : Int))), .int (iI (cc)), .int (iI (bc)), .ref mco, .ref mfl, .ref mba, .ref mdu, .long (lI (pot)), .long (lI (gr)), .long (lI (bk)), .int (iI (btw)), .int (iI (bhd))]))] H locs := G
  refine z_if_ne (tgt := 29) E dX5_would_22 (by decide) (by decide) (fun c_22 => absurd c_22 (by decide)) (fun c_22 => ?_)
  refine z_iconst E dX5_would_25 ?_
  refine z_goto (tgt := 43) E dX5_would_26 (by decide) ?_
  refine kp_X5_35 E G 0 rfl (Nat.le_of_ble_eq_true rfl) dX5_would_43 (fun H locs G => ?_)
  have G : zG D AA ss.heap [(mo, .inr (5, [.int (iI (2)), .int (iI (((n : Nat) : Int))), .ref mnw, .ref mte, .ref mge, .ref mus, .int (iI (((p : Nat) : Int))), .int (iI (((st : Nat) : Int))), .int (iI (cc)), .int (iI (bc)), .ref mco, .ref mfl, .ref mba, .ref mdu, .long (lI (pot)), .long (lI (gr)), .long (lI (bk)), .int (iI (btw)), .int (iI (bhd))]))] H locs := G
  refine z_aload_n E hl 0 rfl dX5_would_46 rfl ?_
  refine kg_X5_35 E G 0 rfl rfl dX5_would_47 ?_
  refine z_if_ne (tgt := 62) E dX5_would_50 (by decide) (by decide) (fun c_50 => ?_) (fun c_50 => absurd c_50 (by decide))
  refine z_iconst E dX5_would_62 ?_
  exact z_iret (w' := [(mo, .inr (5, [.int (iI (2)), .int (iI (((n : Nat) : Int))), .ref mnw, .ref mte, .ref mge, .ref mus, .int (iI (((p : Nat) : Int))), .int (iI (((st : Nat) : Int))), .int (iI (cc)), .int (iI (bc)), .ref mco, .ref mfl, .ref mba, .ref mdu, .long (lI (pot)), .long (lI (gr)), .long (lI (bk)), .int (iI (btw)), .int (iI (bhd))]))]) (v := 0) E hr hlocks G dX5_would_63 (by omega) (by omega) (zx0 rfl) ⟨rfl, rfl⟩

def q_c_X5_would_2 (k4 : Nat → ClassId) (mo mnw mte mge mus mco mfl mba mdu : Nat) (th : Int) (n p st : Nat) (cc bc pot gr bk btw bhd : Int) (m : Nat) (a : Int) : Option Value → va_W → Prop := (fun (v9 : Option Value) (w9 : va_W) => v9 = some (.int (iI (0))) ∧ w9 = [(mo, .inr (5, [.int (iI (3)), .int (iI (((n : Nat) : Int))), .ref mnw, .ref mte, .ref mge, .ref mus, .int (iI (((p : Nat) : Int))), .int (iI (((st : Nat) : Int))), .int (iI (cc)), .int (iI (bc)), .ref mco, .ref mfl, .ref mba, .ref mdu, .long (lI (pot)), .long (lI (gr)), .long (lI (bk)), .int (iI (btw)), .int (iI (bhd))]))])
set_option maxHeartbeats 4000000 in
set_option maxRecDepth 100000 in
theorem c_X5_would_2 (l : Launch) (D : va_G) (k4 : Nat → ClassId) (mo mnw mte mge mus mco mfl mba mdu : Nat) (th : Int) (n p st : Nat) (cc bc pot gr bk btw bhd : Int) (m : Nat) (a : Int) (hn : n ≤ 6) (hm : m < n) (ha : 0 ≤ a ∧ a ≤ 3) (hp : p = 48) : zC l yX5_would (zW yX5_would cX5_would 3 (some .int)) ({ frames := 2, cells := 0, slots := 0, locals := 46 } : Room) D k4 [.ref mo, .int (iI (((m : Nat) : Int))), .int (iI (a))] [(mo, .inr (5, [.int (iI (th)), .int (iI (((n : Nat) : Int))), .ref mnw, .ref mte, .ref mge, .ref mus, .int (iI (((p : Nat) : Int))), .int (iI (((st : Nat) : Int))), .int (iI (cc)), .int (iI (bc)), .ref mco, .ref mfl, .ref mba, .ref mdu, .long (lI (pot)), .long (lI (gr)), .long (lI (bk)), .int (iI (btw)), .int (iI (bhd))]))] (0) (0) (q_c_X5_would_2 k4 mo mnw mte mge mus mco mfl mba mdu th n p st cc bc pot gr bk btw bhd m a) := by
  refine zC_of (cc := cX5_would) (by decide) (Nat.le_of_ble_eq_true rfl) (fun pp ee ss mm bl me co AA H locs ls E hr hlocks hin G hl => ?_)
  have hl : lv_has ls 3 [(0, .ref mo), (1, .int (iI (((m : Nat) : Int)))), (2, .int (iI (a)))] := hl
  refine z_aload_n E hl 0 rfl dX5_would_0 rfl ?_
  refine z_aload_n E hl 0 rfl dX5_would_1 rfl ?_
  refine z_iload_n E hl 1 rfl dX5_would_2 rfl ?_
  refine z_callV E G hl.1 (c_X5_isMember l D k4 mo mnw mte mge mus mco mfl mba mdu th n p st cc bc pot gr bk btw bhd (((m : Nat) : Int)) (by omega) ⟨by omega, by omega⟩ hn) kV_X5_55 ⟨rfl, rfl, Nat.le_of_ble_eq_true rfl, Nat.le_of_ble_eq_true rfl⟩ [0] rfl (by decide) 0 5 rfl rfl rfl rfl rfl (Nat.le_of_ble_eq_true rfl) dX5_would_3 ⟨(by first | exact Nat.le_of_ble_eq_true rfl | omega | (show _ ≤ (0); omega)), (by first | exact Nat.le_of_ble_eq_true rfl | omega | (show _ ≤ (0); omega))⟩ (fun v9 w9 H locs hq G => ?_)
  obtain ⟨rfl, rfl⟩ := hq
  refine W.eq (g2 := F0 mm 6 ls [.int (iI (1)), .ref mo]) rfl ?_
  have G : zG D AA ss.heap [(mo, .inr (5, [.int (iI (th)), .int (iI (((n : Nat) : Int))), .ref mnw, .ref mte, .ref mge, .ref mus, .int (iI (((p : Nat) : Int))), .int (iI (((st : Nat) : Int))), .int (iI (cc)), .int (iI (bc)), .ref mco, .ref mfl, .ref mba, .ref mdu, .long (lI (pot)), .long (lI (gr)), .long (lI (bk)), .int (iI (btw)), .int (iI (bhd))]))] H locs := G
  refine z_if_ne (tgt := 13) E dX5_would_6 (by decide) (by decide) (fun c_6 => ?_) (fun c_6 => absurd c_6 (by decide))
  refine z_iload_n E hl 2 rfl dX5_would_13 rfl ?_
  refine z_i2l E dX5_would_14 ⟨by omega, by omega⟩ ?_
  refine z_lconst E (z := 0) dX5_would_15 (by decide) ?_
  refine z_ldc2 E (n := (3)) zw_156 (by decide +kernel) dX5_would_16 ?_
  refine z_callS E G hl.1 (c_X5_isIn l D k4 a 0 3 (by omega) ⟨⟨by omega, by omega⟩, ⟨by omega, by omega⟩, ⟨by omega, by omega⟩⟩) kS_X5_42 ⟨rfl, rfl, Nat.le_of_ble_eq_true rfl, Nat.le_of_ble_eq_true rfl⟩ [] rfl (by decide) rfl rfl (Nat.le_of_ble_eq_true rfl) dX5_would_19 ⟨(by first | exact Nat.le_of_ble_eq_true rfl | omega | (show _ ≤ (0); omega)), (by first | exact Nat.le_of_ble_eq_true rfl | omega | (show _ ≤ (0); omega))⟩ (fun v9 w9 H locs hq G => ?_)
  obtain ⟨rfl, rfl⟩ := hq
  refine W.eq (g2 := F0 mm 22 ls [.int (iI (1)), .ref mo]) rfl ?_
  have G : zG D AA ss.heap [(mo, .inr (5, [.int (iI (th)), .int (iI (((n : Nat) : Int))), .ref mnw, .ref mte, .ref mge, .ref mus, .int (iI (((p : Nat) : Int))), .int (iI (((st : Nat) : Int))), .int (iI (cc)), .int (iI (bc)), .ref mco, .ref mfl, .ref mba, .ref mdu, .long (lI (pot)), .long (lI (gr)), .long (lI (bk)), .int (iI (btw)), .int (iI (bhd))]))] H locs := G
  refine z_if_ne (tgt := 29) E dX5_would_22 (by decide) (by decide) (fun c_22 => ?_) (fun c_22 => absurd c_22 (by decide))
  refine z_aload_n E hl 0 rfl dX5_would_29 rfl ?_
  refine kg_X5_48 E G 0 rfl rfl dX5_would_30 ?_
  refine z_bipush E dX5_would_33 (by decide) ?_
  refine z_icmp_ne (tgt := 42) E dX5_would_35 (by decide) ⟨by omega, by omega⟩ (by decide) (fun c_35 => absurd c_35 (by omega)) (fun c_35 => ?_)
  refine z_iconst E dX5_would_38 ?_
  refine z_goto (tgt := 43) E dX5_would_39 (by decide) ?_
  refine kp_X5_35 E G 0 rfl (Nat.le_of_ble_eq_true rfl) dX5_would_43 (fun H locs G => ?_)
  have G : zG D AA ss.heap [(mo, .inr (5, [.int (iI (3)), .int (iI (((n : Nat) : Int))), .ref mnw, .ref mte, .ref mge, .ref mus, .int (iI (((p : Nat) : Int))), .int (iI (((st : Nat) : Int))), .int (iI (cc)), .int (iI (bc)), .ref mco, .ref mfl, .ref mba, .ref mdu, .long (lI (pot)), .long (lI (gr)), .long (lI (bk)), .int (iI (btw)), .int (iI (bhd))]))] H locs := G
  refine z_aload_n E hl 0 rfl dX5_would_46 rfl ?_
  refine kg_X5_35 E G 0 rfl rfl dX5_would_47 ?_
  refine z_if_ne (tgt := 62) E dX5_would_50 (by decide) (by decide) (fun c_50 => ?_) (fun c_50 => absurd c_50 (by decide))
  refine z_iconst E dX5_would_62 ?_
  exact z_iret (w' := [(mo, .inr (5, [.int (iI (3)), .int (iI (((n : Nat) : Int))), .ref mnw, .ref mte, .ref mge, .ref mus, .int (iI (((p : Nat) : Int))), .int (iI (((st : Nat) : Int))), .int (iI (cc)), .int (iI (bc)), .ref mco, .ref mfl, .ref mba, .ref mdu, .long (lI (pot)), .long (lI (gr)), .long (lI (bk)), .int (iI (btw)), .int (iI (bhd))]))]) (v := 0) E hr hlocks G dX5_would_63 (by omega) (by omega) (zx0 rfl) ⟨rfl, rfl⟩

def q_c_X5_bestRule (k4 : Nat → ClassId) (mo mnw mte mge mus mco mfl mba mdu : Nat) (th : Int) (n p st : Nat) (cc bc pot gr bk btw bhd : Int) (m : Nat) (NW GE US : Nat → Int) : Option Value → va_W → Prop := (fun (v9 : Option Value) (w9 : va_W) => ∃ (b1 b2 : Int), v9 = some (.int (iI ((bsN (fun r7 => CV (fun x0 => GE (48 * x0 + p)) (fun x0 => US (48 * x0 + p)) (up NW 0 ((r7 : Nat) : Int)) bc (m * 8 + 7)) 4).1))) ∧ w9 = [(mo, .inr (5, [.int (iI (0)), .int (iI (((n : Nat) : Int))), .ref mnw, .ref mte, .ref mge, .ref mus, .int (iI (((p : Nat) : Int))), .int (iI (((st : Nat) : Int))), .int (iI (cc)), .int (iI (bc)), .ref mco, .ref mfl, .ref mba, .ref mdu, .long (lI (pot)), .long (lI (gr)), .long (lI (bk)), .int (iI (b1)), .int (iI (b2))])), (mnw, .inl (k4 0, 19, .inl (fun i9 => iI (NW i9)))), (mge, .inl (k4 0, 288, .inl (fun i9 => iI (GE i9)))), (mus, .inl (k4 0, 288, .inl (fun i9 => iI (US i9))))])
set_option maxHeartbeats 4000000 in
set_option maxRecDepth 100000 in
theorem c_X5_bestRule (l : Launch) (D : va_G) (k4 : Nat → ClassId) (mo mnw mte mge mus mco mfl mba mdu : Nat) (th : Int) (n p st : Nat) (cc bc pot gr bk btw bhd : Int) (m : Nat) (NW GE US : Nat → Int) (hn : n ≤ 6) (hm : m < n) (hp : p < 48) (hg : rdOK (fun x0 => GE (48 * x0 + p))) (hu : rdOK (fun x0 => US (48 * x0 + p))) (g0 : nul n (fun x0 => GE (48 * x0 + p))) (u0 : nul n (fun x0 => US (48 * x0 + p))) (ht : tOK NW) (hc : 0 ≤ bc ∧ bc ≤ NW 4) : zC l yX5_bestRule (zW yX5_bestRule cX5_bestRule 4 (some .int)) ({ frames := 6, cells := 6 * (16 + 2 * rdC (fun x0 => GE (48 * x0 + p)) (fun x0 => US (48 * x0 + p))), slots := 11 * (6 * (16 + 2 * rdC (fun x0 => GE (48 * x0 + p)) (fun x0 => US (48 * x0 + p)))), locals := 169 } : Room) D k4 [.ref mo, .int (iI (((m : Nat) : Int)))] [(mo, .inr (5, [.int (iI (th)), .int (iI (((n : Nat) : Int))), .ref mnw, .ref mte, .ref mge, .ref mus, .int (iI (((p : Nat) : Int))), .int (iI (((st : Nat) : Int))), .int (iI (cc)), .int (iI (bc)), .ref mco, .ref mfl, .ref mba, .ref mdu, .long (lI (pot)), .long (lI (gr)), .long (lI (bk)), .int (iI (btw)), .int (iI (bhd))])), (mnw, .inl (k4 0, 19, .inl (fun i9 => iI (NW i9)))), (mge, .inl (k4 0, 288, .inl (fun i9 => iI (GE i9)))), (mus, .inl (k4 0, 288, .inl (fun i9 => iI (US i9))))] (6 * (16 + 2 * rdC (fun x0 => GE (48 * x0 + p)) (fun x0 => US (48 * x0 + p)))) (11 * (6 * (16 + 2 * rdC (fun x0 => GE (48 * x0 + p)) (fun x0 => US (48 * x0 + p))))) (q_c_X5_bestRule k4 mo mnw mte mge mus mco mfl mba mdu th n p st cc bc pot gr bk btw bhd m NW GE US) := by
  refine zC_of (cc := cX5_bestRule) (by decide) (Nat.le_of_ble_eq_true rfl) (fun pp ee ss mm bl me co AA H locs ls E hr hlocks hin G hl => ?_)
  have hl : lv_has ls 4 [(0, .ref mo), (1, .int (iI (((m : Nat) : Int))))] := hl
  refine z_aload_n E hl 0 rfl dX5_bestRule_0 rfl ?_
  refine z_aload_n E hl 0 rfl dX5_bestRule_1 rfl ?_
  refine z_iload_n E hl 1 rfl dX5_bestRule_2 rfl ?_
  refine z_callV E G hl.1 (c_X5_isMember l D k4 mo mnw mte mge mus mco mfl mba mdu th n p st cc bc pot gr bk btw bhd (((m : Nat) : Int)) (by omega) ⟨by omega, by omega⟩ hn) kV_X5_55 ⟨rfl, rfl, Nat.le_of_ble_eq_true rfl, Nat.le_of_ble_eq_true rfl⟩ [0] rfl (by decide) 0 5 rfl rfl rfl rfl rfl (Nat.le_of_ble_eq_true rfl) dX5_bestRule_3 ⟨(by first | exact Nat.le_of_ble_eq_true rfl | omega | (show _ ≤ (6 * (16 + 2 * rdC (fun x0 => GE (48 * x0 + p)) (fun x0 => US (48 * x0 + p)))); omega)), (by first | exact Nat.le_of_ble_eq_true rfl | omega | (show _ ≤ (11 * (6 * (16 + 2 * rdC (fun x0 => GE (48 * x0 + p)) (fun x0 => US (48 * x0 + p))))); omega))⟩ (fun v9 w9 H locs hq G => ?_)
  obtain ⟨rfl, rfl⟩ := hq
  refine W.eq (g2 := F0 mm 6 ls [.int (iI (1)), .ref mo]) rfl ?_
  have G : zG D AA ss.heap [(mo, .inr (5, [.int (iI (th)), .int (iI (((n : Nat) : Int))), .ref mnw, .ref mte, .ref mge, .ref mus, .int (iI (((p : Nat) : Int))), .int (iI (((st : Nat) : Int))), .int (iI (cc)), .int (iI (bc)), .ref mco, .ref mfl, .ref mba, .ref mdu, .long (lI (pot)), .long (lI (gr)), .long (lI (bk)), .int (iI (btw)), .int (iI (bhd))])), (mnw, .inl (k4 0, 19, .inl (fun i9 => iI (NW i9)))), (mge, .inl (k4 0, 288, .inl (fun i9 => iI (GE i9)))), (mus, .inl (k4 0, 288, .inl (fun i9 => iI (US i9))))] H locs := G
  refine z_if_ne (tgt := 13) E dX5_bestRule_6 (by decide) (by decide) (fun c_6 => ?_) (fun c_6 => absurd c_6 (by decide))
  refine z_aload_n E hl 0 rfl dX5_bestRule_13 rfl ?_
  refine kg_X5_48 E G 0 rfl rfl dX5_bestRule_14 ?_
  refine z_bipush E dX5_bestRule_17 (by decide) ?_
  refine z_icmp_ne (tgt := 26) E dX5_bestRule_19 (by decide) ⟨by omega, by omega⟩ (by decide) (fun c_19 => ?_) (fun c_19 => absurd c_19 (by omega))
  refine z_iconst E dX5_bestRule_26 ?_
  refine kp_X5_35 E G 0 rfl (Nat.le_of_ble_eq_true rfl) dX5_bestRule_27 (fun H locs G => ?_)
  have G : zG D AA ss.heap [(mo, .inr (5, [.int (iI (0)), .int (iI (((n : Nat) : Int))), .ref mnw, .ref mte, .ref mge, .ref mus, .int (iI (((p : Nat) : Int))), .int (iI (((st : Nat) : Int))), .int (iI (cc)), .int (iI (bc)), .ref mco, .ref mfl, .ref mba, .ref mdu, .long (lI (pot)), .long (lI (gr)), .long (lI (bk)), .int (iI (btw)), .int (iI (bhd))])), (mnw, .inl (k4 0, 19, .inl (fun i9 => iI (NW i9)))), (mge, .inl (k4 0, 288, .inl (fun i9 => iI (GE i9)))), (mus, .inl (k4 0, 288, .inl (fun i9 => iI (US i9))))] H locs := G
  refine z_iconst E dX5_bestRule_30 ?_
  refine z_istore_n E [(2, .int (iI (0))), (0, .ref mo), (1, .int (iI (((m : Nat) : Int))))] dX5_bestRule_31 rfl hl (by decide) rfl (fun ls hl => ?_)
  refine z_iconst E dX5_bestRule_32 ?_
  refine z_istore_n E [(3, .int (iI (1))), (2, .int (iI (0))), (0, .ref mo), (1, .int (iI (((m : Nat) : Int))))] dX5_bestRule_33 rfl hl (by decide) rfl (fun ls hl => ?_)
  have hp34_1 : ∀ (n9 : Nat) (q : Nat) (b1 b2 : Int) (H : Heap) (locs : List Loc) (ls : Array Slot), (3 - q < n9) → (q ≤ 3) → zG D AA ss.heap [(mo, .inr (5, [.int (iI (0)), .int (iI (((n : Nat) : Int))), .ref mnw, .ref mte, .ref mge, .ref mus, .int (iI (((p : Nat) : Int))), .int (iI (((st : Nat) : Int))), .int (iI (cc)), .int (iI (bc)), .ref mco, .ref mfl, .ref mba, .ref mdu, .long (lI (pot)), .long (lI (gr)), .long (lI (bk)), .int (iI (b1)), .int (iI (b2))])), (mnw, .inl (k4 0, 19, .inl (fun i9 => iI (NW i9)))), (mge, .inl (k4 0, 288, .inl (fun i9 => iI (GE i9)))), (mus, .inl (k4 0, 288, .inl (fun i9 => iI (US i9))))] H locs → lv_has ls 4 [(0, .ref mo), (1, .int (iI (((m : Nat) : Int)))), (2, .int (iI ((bsN (fun r7 => CV (fun x0 => GE (48 * x0 + p)) (fun x0 => US (48 * x0 + p)) (up NW 0 ((r7 : Nat) : Int)) bc (m * 8 + 7)) (q + 1)).1))), (3, .int (iI (((q + 1 : Nat) : Int))))] → W pp l ee ({ frames := 6, cells := 6 * (16 + 2 * rdC (fun x0 => GE (48 * x0 + p)) (fun x0 => US (48 * x0 + p))), slots := 11 * (6 * (16 + 2 * rdC (fun x0 => GE (48 * x0 + p)) (fun x0 => US (48 * x0 + p)))), locals := 169 } : Room) ss mm ([.ref mo, .int (iI (((m : Nat) : Int)))] : List Value).toArray bl me co H locs (kq (16 + 2 * rdC (fun x0 => GE (48 * x0 + p)) (fun x0 => US (48 * x0 + p))) (q)) (11 * kq (16 + 2 * rdC (fun x0 => GE (48 * x0 + p)) (fun x0 => US (48 * x0 + p))) (q)) (MQ bl (zQ D [(mo, .inr (5, [.int (iI (th)), .int (iI (((n : Nat) : Int))), .ref mnw, .ref mte, .ref mge, .ref mus, .int (iI (((p : Nat) : Int))), .int (iI (((st : Nat) : Int))), .int (iI (cc)), .int (iI (bc)), .ref mco, .ref mfl, .ref mba, .ref mdu, .long (lI (pot)), .long (lI (gr)), .long (lI (bk)), .int (iI (btw)), .int (iI (bhd))])), (mnw, .inl (k4 0, 19, .inl (fun i9 => iI (NW i9)))), (mge, .inl (k4 0, 288, .inl (fun i9 => iI (GE i9)))), (mus, .inl (k4 0, 288, .inl (fun i9 => iI (US i9))))] AA (q_c_X5_bestRule k4 mo mnw mte mge mus mco mfl mba mdu th n p st cc bc pot gr bk btw bhd m NW GE US)) ([.ref mo, .int (iI (((m : Nat) : Int)))] : List Value).toArray ss (6 * (16 + 2 * rdC (fun x0 => GE (48 * x0 + p)) (fun x0 => US (48 * x0 + p)))) (11 * (6 * (16 + 2 * rdC (fun x0 => GE (48 * x0 + p)) (fun x0 => US (48 * x0 + p))))) AA) (F0 mm 34 ls []) := by
    intro n9
    induction n9 with
    | zero => intro q b1 b2 H locs ls hn9 hq G hl; exact absurd hn9 (by omega)
    | succ n9 ih =>
      intro q b1 b2 H locs ls hn9 hq G hl
      have ih34_1 := @ih
      refine z_iload_n E hl 3 rfl dX5_bestRule_34 rfl ?_
      refine z_iconst E dX5_bestRule_35 ?_
      refine z_icmp_gt (tgt := 69) E dX5_bestRule_36 (by decide) ⟨by omega, by omega⟩ (by decide) (fun c_36 => ?_) (fun c_36 => ?_)
      · skip
        obtain rfl : q = 3 := by omega
        have kk9 := kq_3 (K := 16 + 2 * rdC (fun x0 => GE (48 * x0 + p)) (fun x0 => US (48 * x0 + p))) (q := 3) (by omega)
        refine z_iload_n E hl 2 rfl dX5_bestRule_69 rfl ?_
        refine z_eq (y := (bsN (fun r7 => CV (fun x0 => GE (48 * x0 + p)) (fun x0 => US (48 * x0 + p)) (up NW 0 ((r7 : Nat) : Int)) bc (m * 8 + 7)) 4).1) rfl ?_
        exact z_iret (w' := [(mo, .inr (5, [.int (iI (0)), .int (iI (((n : Nat) : Int))), .ref mnw, .ref mte, .ref mge, .ref mus, .int (iI (((p : Nat) : Int))), .int (iI (((st : Nat) : Int))), .int (iI (cc)), .int (iI (bc)), .ref mco, .ref mfl, .ref mba, .ref mdu, .long (lI (pot)), .long (lI (gr)), .long (lI (bk)), .int (iI (b1)), .int (iI (b2))])), (mnw, .inl (k4 0, 19, .inl (fun i9 => iI (NW i9)))), (mge, .inl (k4 0, 288, .inl (fun i9 => iI (GE i9)))), (mus, .inl (k4 0, 288, .inl (fun i9 => iI (US i9))))]) (v := (bsN (fun r7 => CV (fun x0 => GE (48 * x0 + p)) (fun x0 => US (48 * x0 + p)) (up NW 0 ((r7 : Nat) : Int)) bc (m * 8 + 7)) 4).1) E hr hlocks G dX5_bestRule_70 (by omega) (by omega) (zx0 rfl) ⟨b1, b2, rfl, rfl⟩
      · skip
        obtain ⟨r, hr1, hr2⟩ := bsN_v (F := (fun r7 => CV (fun x0 => GE (48 * x0 + p)) (fun x0 => US (48 * x0 + p)) (up NW 0 ((r7 : Nat) : Int)) bc (m * 8 + 7))) q
        have e9 : (bsN (fun r7 => CV (fun x0 => GE (48 * x0 + p)) (fun x0 => US (48 * x0 + p)) (up NW 0 ((r7 : Nat) : Int)) bc (m * 8 + 7)) (q + 1)).1 = ((r : Nat) : Int) := by rw [hr2]
        rw [e9] at hl
        have kk9 := kq_s (16 + 2 * rdC (fun x0 => GE (48 * x0 + p)) (fun x0 => US (48 * x0 + p))) q
        have kk8 := kq_3 (K := 16 + 2 * rdC (fun x0 => GE (48 * x0 + p)) (fun x0 => US (48 * x0 + p))) (q := q + 1) (by omega)
        have yb := clY_b (t := up NW 0 (((q + 1 : Nat) : Int))) (cb := bc) hg hu (tOK_rule ht (by omega)) (by rw [up_n (by decide)]; exact hc)
        have yc := clY_b (t := up NW 0 (((r : Nat) : Int))) (cb := bc) hg hu (tOK_rule ht (by omega)) (by rw [up_n (by decide)]; exact hc)
        have f1 := (CV_fl hg hu (tOK_rule ht (ru := ((q + 1 : Nat) : Int)) (by omega)) (cb := bc) (by rw [up_n (by decide)]; exact hc)).2 m (by omega)
        have f2 := (CV_fl hg hu (tOK_rule ht (ru := ((r : Nat) : Int)) (by omega)) (cb := bc) (by rw [up_n (by decide)]; exact hc)).2 m (by omega)
        have hl : lv_has ls 4 [(0, .ref mo), (1, .int (iI (((m : Nat) : Int)))), (2, .int (iI (((r : Nat) : Int)))), (3, .int (iI (((q + 1 : Nat) : Int))))] := hl
        refine z_aload_n E hl 0 rfl dX5_bestRule_39 rfl ?_
        refine kg_X5_35 E G 0 rfl rfl dX5_bestRule_40 ?_
        refine z_if_ne (tgt := 69) E dX5_bestRule_43 (by decide) (by decide) (fun c_43 => absurd c_43 (by decide)) (fun c_43 => ?_)
        refine z_aload_n E hl 0 rfl dX5_bestRule_46 rfl ?_
        refine z_iload_n E hl 1 rfl dX5_bestRule_47 rfl ?_
        refine z_iload_n E hl 3 rfl dX5_bestRule_48 rfl ?_
        refine z_callV E G hl.1 (c_X5_wouldBe l D k4 mo mnw mte mge mus mco mfl mba mdu 0 n p st cc bc pot gr bk b1 b2 m (((q + 1 : Nat) : Int)) NW GE US hn hm hp hg hu g0 u0 ht hc (by omega)) kV_X5_166 ⟨rfl, rfl, Nat.le_of_ble_eq_true rfl, Nat.le_of_ble_eq_true rfl⟩ [0, 1, 2, 3] rfl (by decide) 0 5 rfl rfl rfl rfl rfl (Nat.le_of_ble_eq_true rfl) dX5_bestRule_49 ⟨(by first | exact Nat.le_of_ble_eq_true rfl | omega | (show _ ≤ (6 * (16 + 2 * rdC (fun x0 => GE (48 * x0 + p)) (fun x0 => US (48 * x0 + p)))); omega)), (by first | exact Nat.le_of_ble_eq_true rfl | omega | (show _ ≤ (11 * (6 * (16 + 2 * rdC (fun x0 => GE (48 * x0 + p)) (fun x0 => US (48 * x0 + p))))); omega))⟩ (fun v9 w9 H locs hq G => ?_)
        obtain ⟨rfl, rfl⟩ := hq
        refine W.eq (g2 := F0 mm 52 ls [.int (iI ((CV (fun x0 => GE (48 * x0 + p)) (fun x0 => US (48 * x0 + p)) (up NW 0 ((q + 1 : Nat) : Int)) bc) (m * 8 + 7)))]) rfl ?_
        have G : zG D AA ss.heap [(mo, .inr (5, [.int (iI (0)), .int (iI (((n : Nat) : Int))), .ref mnw, .ref mte, .ref mge, .ref mus, .int (iI (((p : Nat) : Int))), .int (iI (((st : Nat) : Int))), .int (iI (cc)), .int (iI (bc)), .ref mco, .ref mfl, .ref mba, .ref mdu, .long (lI (pot)), .long (lI (gr)), .long (lI (bk)), .int (iI (betW (fun x0 => GE (48 * x0 + p)) (fun x0 => US (48 * x0 + p)))), .int (iI (CAft (fun x0 => GE (48 * x0 + p)) (fun x0 => US (48 * x0 + p)) (up NW 0 ((q + 1 : Nat) : Int)) bc))])), (mnw, .inl (k4 0, 19, .inl (fun i9 => iI (NW i9)))), (mge, .inl (k4 0, 288, .inl (fun i9 => iI (GE i9)))), (mus, .inl (k4 0, 288, .inl (fun i9 => iI (US i9))))] H locs := G
        refine z_aload_n E hl 0 rfl dX5_bestRule_52 rfl ?_
        refine z_iload_n E hl 1 rfl dX5_bestRule_53 rfl ?_
        refine z_iload_n E hl 2 rfl dX5_bestRule_54 rfl ?_
        refine z_callV E G hl.1 (c_X5_wouldBe l D k4 mo mnw mte mge mus mco mfl mba mdu 0 n p st cc bc pot gr bk (betW (fun x0 => GE (48 * x0 + p)) (fun x0 => US (48 * x0 + p))) (CAft (fun x0 => GE (48 * x0 + p)) (fun x0 => US (48 * x0 + p)) (up NW 0 ((q + 1 : Nat) : Int)) bc) m (((r : Nat) : Int)) NW GE US hn hm hp hg hu g0 u0 ht hc (by omega)) kV_X5_166 ⟨rfl, rfl, Nat.le_of_ble_eq_true rfl, Nat.le_of_ble_eq_true rfl⟩ [0, 1, 2, 3] rfl (by decide) 0 5 rfl rfl rfl rfl rfl (Nat.le_of_ble_eq_true rfl) dX5_bestRule_55 ⟨(by first | exact Nat.le_of_ble_eq_true rfl | omega | (show _ ≤ (6 * (16 + 2 * rdC (fun x0 => GE (48 * x0 + p)) (fun x0 => US (48 * x0 + p)))); omega)), (by first | exact Nat.le_of_ble_eq_true rfl | omega | (show _ ≤ (11 * (6 * (16 + 2 * rdC (fun x0 => GE (48 * x0 + p)) (fun x0 => US (48 * x0 + p))))); omega))⟩ (fun v9 w9 H locs hq G => ?_)
        obtain ⟨rfl, rfl⟩ := hq
        refine W.eq (g2 := F0 mm 58 ls [.int (iI ((CV (fun x0 => GE (48 * x0 + p)) (fun x0 => US (48 * x0 + p)) (up NW 0 ((r : Nat) : Int)) bc) (m * 8 + 7))), .int (iI ((CV (fun x0 => GE (48 * x0 + p)) (fun x0 => US (48 * x0 + p)) (up NW 0 ((q + 1 : Nat) : Int)) bc) (m * 8 + 7)))]) rfl ?_
        have G : zG D AA ss.heap [(mo, .inr (5, [.int (iI (0)), .int (iI (((n : Nat) : Int))), .ref mnw, .ref mte, .ref mge, .ref mus, .int (iI (((p : Nat) : Int))), .int (iI (((st : Nat) : Int))), .int (iI (cc)), .int (iI (bc)), .ref mco, .ref mfl, .ref mba, .ref mdu, .long (lI (pot)), .long (lI (gr)), .long (lI (bk)), .int (iI (betW (fun x0 => GE (48 * x0 + p)) (fun x0 => US (48 * x0 + p)))), .int (iI (CAft (fun x0 => GE (48 * x0 + p)) (fun x0 => US (48 * x0 + p)) (up NW 0 ((r : Nat) : Int)) bc))])), (mnw, .inl (k4 0, 19, .inl (fun i9 => iI (NW i9)))), (mge, .inl (k4 0, 288, .inl (fun i9 => iI (GE i9)))), (mus, .inl (k4 0, 288, .inl (fun i9 => iI (US i9))))] H locs := G
        refine z_icmp_le (tgt := 63) E dX5_bestRule_58 (by decide) ⟨by omega, by omega⟩ ⟨by omega, by omega⟩ (fun c_58 => ?_) (fun c_58 => ?_)
        · skip
          have e8 : (bsN (fun r7 => CV (fun x0 => GE (48 * x0 + p)) (fun x0 => US (48 * x0 + p)) (up NW 0 ((r7 : Nat) : Int)) bc (m * 8 + 7)) (q + 1 + 1)).1 = ((r : Nat) : Int) := by
            have h1 : bsN (fun r7 => CV (fun x0 => GE (48 * x0 + p)) (fun x0 => US (48 * x0 + p)) (up NW 0 ((r7 : Nat) : Int)) bc (m * 8 + 7)) (q + 1 + 1) = bsN (fun r7 => CV (fun x0 => GE (48 * x0 + p)) (fun x0 => US (48 * x0 + p)) (up NW 0 ((r7 : Nat) : Int)) bc (m * 8 + 7)) (q + 1) := if_neg (fun z => z.elim (fun z => absurd z (by omega)) (fun z => by rw [hr2] at z; exact absurd c_58 (Int.not_le.mpr z)))
            rw [h1]; exact e9
          rw [← e8] at hl
          have hl : lv_has ls 4 [(0, .ref mo), (1, .int (iI (((m : Nat) : Int)))), (2, .int (iI ((bsN (fun r7 => CV (fun x0 => GE (48 * x0 + p)) (fun x0 => US (48 * x0 + p)) (up NW 0 ((r7 : Nat) : Int)) bc (m * 8 + 7)) (q + 1 + 1)).1))), (3, .int (iI (((q + 1 : Nat) : Int))))] := hl
          refine z_iinc E [(3, .int (iI (((q + 1 : Nat) : Int) + 1))), (0, .ref mo), (1, .int (iI (((m : Nat) : Int)))), (2, .int (iI ((bsN (fun r7 => CV (fun x0 => GE (48 * x0 + p)) (fun x0 => US (48 * x0 + p)) (up NW 0 ((r7 : Nat) : Int)) bc (m * 8 + 7)) (q + 1 + 1)).1)))] dX5_bestRule_63 hl (k := 3) rfl (by decide) rfl (fun ls hl => ?_)
          refine z_goto (tgt := 34) E dX5_bestRule_66 (by decide) ?_
          first | (have hl : lv_has ls 4 [(3, .int (iI (((q + 1 : Nat) : Int) + 1))), (2, .int (iI ((bsN (fun r7 => CV (fun x0 => GE (48 * x0 + p)) (fun x0 => US (48 * x0 + p)) (up NW 0 ((r7 : Nat) : Int)) bc (m * 8 + 7)) (q + 1 + 1)).1))), (0, .ref mo), (1, .int (iI (((m : Nat) : Int))))] := (by rw [e8]; exact hl); have hl0 := hl) | skip
          refine W.widen (show _ ≤ kq (16 + 2 * rdC (fun x0 => GE (48 * x0 + p)) (fun x0 => US (48 * x0 + p))) (q + 1) by omega) (show _ ≤ 11 * kq (16 + 2 * rdC (fun x0 => GE (48 * x0 + p)) (fun x0 => US (48 * x0 + p))) (q + 1) by omega) ?_
          exact ih34_1 (q + 1) _ _ _ _ _ (by omega) (by omega) G (lv_sub hl [1, 2, 3, 0] rfl)
        · skip
          have e8 : (bsN (fun r7 => CV (fun x0 => GE (48 * x0 + p)) (fun x0 => US (48 * x0 + p)) (up NW 0 ((r7 : Nat) : Int)) bc (m * 8 + 7)) (q + 1 + 1)).1 = ((q + 1 : Nat) : Int) := by
            have h1 : bsN (fun r7 => CV (fun x0 => GE (48 * x0 + p)) (fun x0 => US (48 * x0 + p)) (up NW 0 ((r7 : Nat) : Int)) bc (m * 8 + 7)) (q + 1 + 1) = (((q + 1 : Nat) : Int), (fun r7 => CV (fun x0 => GE (48 * x0 + p)) (fun x0 => US (48 * x0 + p)) (up NW 0 ((r7 : Nat) : Int)) bc (m * 8 + 7)) (q + 1)) := if_pos (Or.inr (by rw [hr2]; exact c_58))
            rw [h1]
          refine z_iload_n E hl 3 rfl dX5_bestRule_61 rfl ?_
          refine z_istore_n E [(2, .int (iI (((q + 1 : Nat) : Int)))), (0, .ref mo), (1, .int (iI (((m : Nat) : Int)))), (3, .int (iI (((q + 1 : Nat) : Int))))] dX5_bestRule_62 rfl hl (by decide) rfl (fun ls hl => ?_)
          refine z_iinc E [(3, .int (iI (((q + 1 : Nat) : Int) + 1))), (2, .int (iI (((q + 1 : Nat) : Int)))), (0, .ref mo), (1, .int (iI (((m : Nat) : Int))))] dX5_bestRule_63 hl (k := 3) rfl (by decide) rfl (fun ls hl => ?_)
          refine z_goto (tgt := 34) E dX5_bestRule_66 (by decide) ?_
          first | (have hl : lv_has ls 4 [(3, .int (iI (((q + 1 : Nat) : Int) + 1))), (2, .int (iI ((bsN (fun r7 => CV (fun x0 => GE (48 * x0 + p)) (fun x0 => US (48 * x0 + p)) (up NW 0 ((r7 : Nat) : Int)) bc (m * 8 + 7)) (q + 1 + 1)).1))), (0, .ref mo), (1, .int (iI (((m : Nat) : Int))))] := (by rw [e8]; exact hl); have hl0 := hl) | skip
          refine W.widen (show _ ≤ kq (16 + 2 * rdC (fun x0 => GE (48 * x0 + p)) (fun x0 => US (48 * x0 + p))) (q + 1) by omega) (show _ ≤ 11 * kq (16 + 2 * rdC (fun x0 => GE (48 * x0 + p)) (fun x0 => US (48 * x0 + p))) (q + 1) by omega) ?_
          exact ih34_1 (q + 1) _ _ _ _ _ (by omega) (by omega) G (lv_sub hl [2, 3, 1, 0] rfl)
  exact hp34_1 4 0 btw bhd _ _ _ (by decide) (by decide) G (lv_sub hl [2, 3, 1, 0] rfl)

def q_c_X5_bestRule_0 (k4 : Nat → ClassId) (mo mnw mte mge mus mco mfl mba mdu : Nat) (th : Int) (n p st : Nat) (cc bc pot gr bk btw bhd : Int) (m : Int) : Option Value → va_W → Prop := (fun (v9 : Option Value) (w9 : va_W) => v9 = some (.int (iI (0))) ∧ w9 = [(mo, .inr (5, [.int (iI (1)), .int (iI (((n : Nat) : Int))), .ref mnw, .ref mte, .ref mge, .ref mus, .int (iI (((p : Nat) : Int))), .int (iI (((st : Nat) : Int))), .int (iI (cc)), .int (iI (bc)), .ref mco, .ref mfl, .ref mba, .ref mdu, .long (lI (pot)), .long (lI (gr)), .long (lI (bk)), .int (iI (btw)), .int (iI (bhd))]))])
set_option maxHeartbeats 4000000 in
set_option maxRecDepth 100000 in
theorem c_X5_bestRule_0 (l : Launch) (D : va_G) (k4 : Nat → ClassId) (mo mnw mte mge mus mco mfl mba mdu : Nat) (th : Int) (n p st : Nat) (cc bc pot gr bk btw bhd : Int) (m : Int) (hn : n ≤ 6) (hm : (-2147483648 ≤ m ∧ m ≤ 2147483647) ∧ (m < 0 ∨ (n : Int) ≤ m)) : zC l yX5_bestRule (zW yX5_bestRule cX5_bestRule 4 (some .int)) ({ frames := 2, cells := 0, slots := 0, locals := 46 } : Room) D k4 [.ref mo, .int (iI (m))] [(mo, .inr (5, [.int (iI (th)), .int (iI (((n : Nat) : Int))), .ref mnw, .ref mte, .ref mge, .ref mus, .int (iI (((p : Nat) : Int))), .int (iI (((st : Nat) : Int))), .int (iI (cc)), .int (iI (bc)), .ref mco, .ref mfl, .ref mba, .ref mdu, .long (lI (pot)), .long (lI (gr)), .long (lI (bk)), .int (iI (btw)), .int (iI (bhd))]))] (0) (0) (q_c_X5_bestRule_0 k4 mo mnw mte mge mus mco mfl mba mdu th n p st cc bc pot gr bk btw bhd m) := by
  refine zC_of (cc := cX5_bestRule) (by decide) (Nat.le_of_ble_eq_true rfl) (fun pp ee ss mm bl me co AA H locs ls E hr hlocks hin G hl => ?_)
  have hl : lv_has ls 4 [(0, .ref mo), (1, .int (iI (m)))] := hl
  refine z_aload_n E hl 0 rfl dX5_bestRule_0 rfl ?_
  refine z_aload_n E hl 0 rfl dX5_bestRule_1 rfl ?_
  refine z_iload_n E hl 1 rfl dX5_bestRule_2 rfl ?_
  refine z_callV E G hl.1 (c_X5_isMemberF l D k4 mo mnw mte mge mus mco mfl mba mdu th n p st cc bc pot gr bk btw bhd m (by omega) ⟨by omega, by omega⟩ hn) kV_X5_55 ⟨rfl, rfl, Nat.le_of_ble_eq_true rfl, Nat.le_of_ble_eq_true rfl⟩ [0] rfl (by decide) 0 5 rfl rfl rfl rfl rfl (Nat.le_of_ble_eq_true rfl) dX5_bestRule_3 ⟨(by first | exact Nat.le_of_ble_eq_true rfl | omega | (show _ ≤ (0); omega)), (by first | exact Nat.le_of_ble_eq_true rfl | omega | (show _ ≤ (0); omega))⟩ (fun v9 w9 H locs hq G => ?_)
  obtain ⟨rfl, rfl⟩ := hq
  refine W.eq (g2 := F0 mm 6 ls [.int (iI (0)), .ref mo]) rfl ?_
  have G : zG D AA ss.heap [(mo, .inr (5, [.int (iI (th)), .int (iI (((n : Nat) : Int))), .ref mnw, .ref mte, .ref mge, .ref mus, .int (iI (((p : Nat) : Int))), .int (iI (((st : Nat) : Int))), .int (iI (cc)), .int (iI (bc)), .ref mco, .ref mfl, .ref mba, .ref mdu, .long (lI (pot)), .long (lI (gr)), .long (lI (bk)), .int (iI (btw)), .int (iI (bhd))]))] H locs := G
  refine z_if_ne (tgt := 13) E dX5_bestRule_6 (by decide) (by decide) (fun c_6 => absurd c_6 (by decide)) (fun c_6 => ?_)
  refine z_iconst E dX5_bestRule_9 ?_
  refine z_goto (tgt := 27) E dX5_bestRule_10 (by decide) ?_
  refine kp_X5_35 E G 0 rfl (Nat.le_of_ble_eq_true rfl) dX5_bestRule_27 (fun H locs G => ?_)
  have G : zG D AA ss.heap [(mo, .inr (5, [.int (iI (1)), .int (iI (((n : Nat) : Int))), .ref mnw, .ref mte, .ref mge, .ref mus, .int (iI (((p : Nat) : Int))), .int (iI (((st : Nat) : Int))), .int (iI (cc)), .int (iI (bc)), .ref mco, .ref mfl, .ref mba, .ref mdu, .long (lI (pot)), .long (lI (gr)), .long (lI (bk)), .int (iI (btw)), .int (iI (bhd))]))] H locs := G
  refine z_iconst E dX5_bestRule_30 ?_
  refine z_istore_n E [(2, .int (iI (0))), (0, .ref mo), (1, .int (iI (m)))] dX5_bestRule_31 rfl hl (by decide) rfl (fun ls hl => ?_)
  refine z_iconst E dX5_bestRule_32 ?_
  refine z_istore_n E [(3, .int (iI (1))), (2, .int (iI (0))), (0, .ref mo), (1, .int (iI (m)))] dX5_bestRule_33 rfl hl (by decide) rfl (fun ls hl => ?_)
  refine z_iload_n E hl 0 rfl dX5_bestRule_34 rfl ?_
  refine z_iconst E dX5_bestRule_35 ?_
  refine z_icmp_gt (tgt := 69) E dX5_bestRule_36 (by decide) (by decide) (by decide) (fun c_36 => ?_) (fun c_36 => ?_)
  · skip
    refine z_iload_n E hl 1 rfl dX5_bestRule_69 rfl ?_
    exact z_iret (w' := [(mo, .inr (5, [.int (iI (1)), .int (iI (((n : Nat) : Int))), .ref mnw, .ref mte, .ref mge, .ref mus, .int (iI (((p : Nat) : Int))), .int (iI (((st : Nat) : Int))), .int (iI (cc)), .int (iI (bc)), .ref mco, .ref mfl, .ref mba, .ref mdu, .long (lI (pot)), .long (lI (gr)), .long (lI (bk)), .int (iI (btw)), .int (iI (bhd))]))]) (v := 0) E hr hlocks G dX5_bestRule_70 (by omega) (by omega) (zx0 rfl) ⟨rfl, rfl⟩
  · skip
    refine z_aload_n E hl 2 rfl dX5_bestRule_39 rfl ?_
    refine kg_X5_35 E G 0 rfl rfl dX5_bestRule_40 ?_
    refine z_if_ne (tgt := 69) E dX5_bestRule_43 (by decide) (by decide) (fun c_43 => ?_) (fun c_43 => absurd c_43 (by decide))
    refine z_iload_n E hl 1 rfl dX5_bestRule_69 rfl ?_
    exact z_iret (w' := [(mo, .inr (5, [.int (iI (1)), .int (iI (((n : Nat) : Int))), .ref mnw, .ref mte, .ref mge, .ref mus, .int (iI (((p : Nat) : Int))), .int (iI (((st : Nat) : Int))), .int (iI (cc)), .int (iI (bc)), .ref mco, .ref mfl, .ref mba, .ref mdu, .long (lI (pot)), .long (lI (gr)), .long (lI (bk)), .int (iI (btw)), .int (iI (bhd))]))]) (v := 0) E hr hlocks G dX5_bestRule_70 (by omega) (by omega) (zx0 rfl) ⟨rfl, rfl⟩

def q_c_X5_bestRule_1 (k4 : Nat → ClassId) (mo mnw mte mge mus mco mfl mba mdu : Nat) (th : Int) (n p st : Nat) (cc bc pot gr bk btw bhd : Int) (m : Nat) : Option Value → va_W → Prop := (fun (v9 : Option Value) (w9 : va_W) => v9 = some (.int (iI (0))) ∧ w9 = [(mo, .inr (5, [.int (iI (2)), .int (iI (((n : Nat) : Int))), .ref mnw, .ref mte, .ref mge, .ref mus, .int (iI (((p : Nat) : Int))), .int (iI (((st : Nat) : Int))), .int (iI (cc)), .int (iI (bc)), .ref mco, .ref mfl, .ref mba, .ref mdu, .long (lI (pot)), .long (lI (gr)), .long (lI (bk)), .int (iI (btw)), .int (iI (bhd))]))])
set_option maxHeartbeats 4000000 in
set_option maxRecDepth 100000 in
theorem c_X5_bestRule_1 (l : Launch) (D : va_G) (k4 : Nat → ClassId) (mo mnw mte mge mus mco mfl mba mdu : Nat) (th : Int) (n p st : Nat) (cc bc pot gr bk btw bhd : Int) (m : Nat) (hn : n ≤ 6) (hm : m < n) (hp : p = 48) : zC l yX5_bestRule (zW yX5_bestRule cX5_bestRule 4 (some .int)) ({ frames := 2, cells := 0, slots := 0, locals := 46 } : Room) D k4 [.ref mo, .int (iI (((m : Nat) : Int)))] [(mo, .inr (5, [.int (iI (th)), .int (iI (((n : Nat) : Int))), .ref mnw, .ref mte, .ref mge, .ref mus, .int (iI (((p : Nat) : Int))), .int (iI (((st : Nat) : Int))), .int (iI (cc)), .int (iI (bc)), .ref mco, .ref mfl, .ref mba, .ref mdu, .long (lI (pot)), .long (lI (gr)), .long (lI (bk)), .int (iI (btw)), .int (iI (bhd))]))] (0) (0) (q_c_X5_bestRule_1 k4 mo mnw mte mge mus mco mfl mba mdu th n p st cc bc pot gr bk btw bhd m) := by
  refine zC_of (cc := cX5_bestRule) (by decide) (Nat.le_of_ble_eq_true rfl) (fun pp ee ss mm bl me co AA H locs ls E hr hlocks hin G hl => ?_)
  have hl : lv_has ls 4 [(0, .ref mo), (1, .int (iI (((m : Nat) : Int))))] := hl
  refine z_aload_n E hl 0 rfl dX5_bestRule_0 rfl ?_
  refine z_aload_n E hl 0 rfl dX5_bestRule_1 rfl ?_
  refine z_iload_n E hl 1 rfl dX5_bestRule_2 rfl ?_
  refine z_callV E G hl.1 (c_X5_isMember l D k4 mo mnw mte mge mus mco mfl mba mdu th n p st cc bc pot gr bk btw bhd (((m : Nat) : Int)) (by omega) ⟨by omega, by omega⟩ hn) kV_X5_55 ⟨rfl, rfl, Nat.le_of_ble_eq_true rfl, Nat.le_of_ble_eq_true rfl⟩ [0] rfl (by decide) 0 5 rfl rfl rfl rfl rfl (Nat.le_of_ble_eq_true rfl) dX5_bestRule_3 ⟨(by first | exact Nat.le_of_ble_eq_true rfl | omega | (show _ ≤ (0); omega)), (by first | exact Nat.le_of_ble_eq_true rfl | omega | (show _ ≤ (0); omega))⟩ (fun v9 w9 H locs hq G => ?_)
  obtain ⟨rfl, rfl⟩ := hq
  refine W.eq (g2 := F0 mm 6 ls [.int (iI (1)), .ref mo]) rfl ?_
  have G : zG D AA ss.heap [(mo, .inr (5, [.int (iI (th)), .int (iI (((n : Nat) : Int))), .ref mnw, .ref mte, .ref mge, .ref mus, .int (iI (((p : Nat) : Int))), .int (iI (((st : Nat) : Int))), .int (iI (cc)), .int (iI (bc)), .ref mco, .ref mfl, .ref mba, .ref mdu, .long (lI (pot)), .long (lI (gr)), .long (lI (bk)), .int (iI (btw)), .int (iI (bhd))]))] H locs := G
  refine z_if_ne (tgt := 13) E dX5_bestRule_6 (by decide) (by decide) (fun c_6 => ?_) (fun c_6 => absurd c_6 (by decide))
  refine z_aload_n E hl 0 rfl dX5_bestRule_13 rfl ?_
  refine kg_X5_48 E G 0 rfl rfl dX5_bestRule_14 ?_
  refine z_bipush E dX5_bestRule_17 (by decide) ?_
  refine z_icmp_ne (tgt := 26) E dX5_bestRule_19 (by decide) ⟨by omega, by omega⟩ (by decide) (fun c_19 => absurd c_19 (by omega)) (fun c_19 => ?_)
  refine z_iconst E dX5_bestRule_22 ?_
  refine z_goto (tgt := 27) E dX5_bestRule_23 (by decide) ?_
  refine kp_X5_35 E G 0 rfl (Nat.le_of_ble_eq_true rfl) dX5_bestRule_27 (fun H locs G => ?_)
  have G : zG D AA ss.heap [(mo, .inr (5, [.int (iI (2)), .int (iI (((n : Nat) : Int))), .ref mnw, .ref mte, .ref mge, .ref mus, .int (iI (((p : Nat) : Int))), .int (iI (((st : Nat) : Int))), .int (iI (cc)), .int (iI (bc)), .ref mco, .ref mfl, .ref mba, .ref mdu, .long (lI (pot)), .long (lI (gr)), .long (lI (bk)), .int (iI (btw)), .int (iI (bhd))]))] H locs := G
  refine z_iconst E dX5_bestRule_30 ?_
  refine z_istore_n E [(2, .int (iI (0))), (0, .ref mo), (1, .int (iI (((m : Nat) : Int))))] dX5_bestRule_31 rfl hl (by decide) rfl (fun ls hl => ?_)
  refine z_iconst E dX5_bestRule_32 ?_
  refine z_istore_n E [(3, .int (iI (1))), (2, .int (iI (0))), (0, .ref mo), (1, .int (iI (((m : Nat) : Int))))] dX5_bestRule_33 rfl hl (by decide) rfl (fun ls hl => ?_)
  refine z_iload_n E hl 0 rfl dX5_bestRule_34 rfl ?_
  refine z_iconst E dX5_bestRule_35 ?_
  refine z_icmp_gt (tgt := 69) E dX5_bestRule_36 (by decide) (by decide) (by decide) (fun c_36 => ?_) (fun c_36 => ?_)
  · skip
    refine z_iload_n E hl 1 rfl dX5_bestRule_69 rfl ?_
    exact z_iret (w' := [(mo, .inr (5, [.int (iI (2)), .int (iI (((n : Nat) : Int))), .ref mnw, .ref mte, .ref mge, .ref mus, .int (iI (((p : Nat) : Int))), .int (iI (((st : Nat) : Int))), .int (iI (cc)), .int (iI (bc)), .ref mco, .ref mfl, .ref mba, .ref mdu, .long (lI (pot)), .long (lI (gr)), .long (lI (bk)), .int (iI (btw)), .int (iI (bhd))]))]) (v := 0) E hr hlocks G dX5_bestRule_70 (by omega) (by omega) (zx0 rfl) ⟨rfl, rfl⟩
  · skip
    refine z_aload_n E hl 2 rfl dX5_bestRule_39 rfl ?_
    refine kg_X5_35 E G 0 rfl rfl dX5_bestRule_40 ?_
    refine z_if_ne (tgt := 69) E dX5_bestRule_43 (by decide) (by decide) (fun c_43 => ?_) (fun c_43 => absurd c_43 (by decide))
    refine z_iload_n E hl 1 rfl dX5_bestRule_69 rfl ?_
    exact z_iret (w' := [(mo, .inr (5, [.int (iI (2)), .int (iI (((n : Nat) : Int))), .ref mnw, .ref mte, .ref mge, .ref mus, .int (iI (((p : Nat) : Int))), .int (iI (((st : Nat) : Int))), .int (iI (cc)), .int (iI (bc)), .ref mco, .ref mfl, .ref mba, .ref mdu, .long (lI (pot)), .long (lI (gr)), .long (lI (bk)), .int (iI (btw)), .int (iI (bhd))]))]) (v := 0) E hr hlocks G dX5_bestRule_70 (by omega) (by omega) (zx0 rfl) ⟨rfl, rfl⟩

