def q_c_X1_shareByRank (k4 : Nat → ClassId) (h r q : Nat) (S : sS) (rs : Nat) (rk : Nat → Int) : Option Value → va_W → Prop := (fun (v9 : Option Value) (w9 : va_W) => v9 = none ∧ w9 = [(h, .inr (1, [.ref r, .ref q, .int (iI ((rankS rk S).1))])), (r, .inl (k4 0, 6, .inl (fun k => iI ((rankS rk S).2.1 k)))), (q, .inl (k4 0, 6, .inl (fun k => iI ((rankS rk S).2.2 k)))), (rs, .inl (k4 0, 6, .inl (fun k => iI (rk k))))])
set_option maxHeartbeats 4000000 in
set_option maxRecDepth 100000 in
theorem c_X1_shareByRank (l : Launch) (D : va_G) (k4 : Nat → ClassId) (h r q : Nat) (S : sS) (rs : Nat) (rk : Nat → Int) (hS : sOK S) (hk9 : ∀ k, k < 6 → 0 ≤ rk k ∧ rk k ≤ 99) : zC l yX1_shareByRank (zW yX1_shareByRank cX1_shareByRank 4 none) ({ frames := 2, cells := 0, slots := 0, locals := 45 } : Room) D k4 [.ref h, .ref rs] [(h, .inr (1, [.ref r, .ref q, .int (iI (S.1))])), (r, .inl (k4 0, 6, .inl (fun k => iI (S.2.1 k)))), (q, .inl (k4 0, 6, .inl (fun k => iI (S.2.2 k)))), (rs, .inl (k4 0, 6, .inl (fun k => iI (rk k))))] (0) (0) (q_c_X1_shareByRank k4 h r q S rs rk) := by
  refine zC_of (cc := cX1_shareByRank) (by decide) (Nat.le_of_ble_eq_true rfl) (fun pp ee ss mm bl me co AA ls E hr hlocks hin G hl => ?_)
  have hl : lv_has ls 4 [(0, .ref h), (1, .ref rs)] := hl
  refine z_iconst E dX1_shareByRank_0 ?_
  refine z_istore_n E [(2, .int (iI ((-1)))), (0, .ref h), (1, .ref rs)] dX1_shareByRank_1 rfl hl (by decide) rfl (fun ls hl => ?_)
  refine z_iconst E dX1_shareByRank_2 ?_
  refine z_istore_n E [(3, .int (iI (0))), (2, .int (iI ((-1)))), (0, .ref h), (1, .ref rs)] dX1_shareByRank_3 rfl hl (by decide) rfl (fun ls hl => ?_)
  have hp4_1 : ∀ (n9 : Nat) (j : Nat) (H : Heap) (locs : List Loc) (ls : Array Slot), (6 - j < n9) → (j ≤ 6) → zG D AA ss.heap [(h, .inr (1, [.ref r, .ref q, .int (iI ((iter (rkStep rk) j (-1, S)).2.1))])), (r, .inl (k4 0, 6, .inl (fun k => iI ((iter (rkStep rk) j (-1, S)).2.2.1 k)))), (q, .inl (k4 0, 6, .inl (fun k => iI ((iter (rkStep rk) j (-1, S)).2.2.2 k)))), (rs, .inl (k4 0, 6, .inl (fun k => iI (rk k))))] H locs → lv_has ls 4 [(0, .ref h), (1, .ref rs), (2, .int (iI ((iter (rkStep rk) j (-1, S)).1))), (3, .int (iI (((j : Nat) : Int))))] → W pp l ee ({ frames := 2, cells := 0, slots := 0, locals := 45 } : Room) ss mm ([.ref h, .ref rs] : List Value).toArray bl me co H locs (0) (0) (MQ bl (zQ D [(h, .inr (1, [.ref r, .ref q, .int (iI (S.1))])), (r, .inl (k4 0, 6, .inl (fun k => iI (S.2.1 k)))), (q, .inl (k4 0, 6, .inl (fun k => iI (S.2.2 k)))), (rs, .inl (k4 0, 6, .inl (fun k => iI (rk k))))] AA (q_c_X1_shareByRank k4 h r q S rs rk)) ([.ref h, .ref rs] : List Value).toArray ss (0) (0) AA) (F0 mm 4 ls []) := by
    intro n9
    induction n9 with
    | zero => intro j H locs ls hn9 hj G hl; exact absurd hn9 (by omega)
    | succ n9 ih =>
      intro j H locs ls hn9 hj G hl
      have ih4_1 := @ih
      have b2 := rankS_ok hk9 hS j
      refine z_iload_n E hl 3 rfl dX1_shareByRank_4 rfl ?_
      refine z_bipush E dX1_shareByRank_5 (by decide) ?_
      refine z_icmp_ge (tgt := 34) E dX1_shareByRank_7 (by decide) ⟨by omega, by omega⟩ (by decide) (fun c_7 => ?_) (fun c_7 => ?_)
      · skip
        obtain rfl : j = 6 := by omega
        exact z_vret (w' := [(h, .inr (1, [.ref r, .ref q, .int (iI ((iter (rkStep rk) 6 (-1, S)).2.1))])), (r, .inl (k4 0, 6, .inl (fun k => iI ((iter (rkStep rk) 6 (-1, S)).2.2.1 k)))), (q, .inl (k4 0, 6, .inl (fun k => iI ((iter (rkStep rk) 6 (-1, S)).2.2.2 k)))), (rs, .inl (k4 0, 6, .inl (fun k => iI (rk k))))]) E hr hlocks G dX1_shareByRank_34 (by omega) (by omega) (zx0 rfl) ⟨rfl, rfl⟩
      · skip
        refine z_aload_n E hl 1 rfl dX1_shareByRank_10 rfl ?_
        refine z_iload_n E hl 2 rfl dX1_shareByRank_11 rfl ?_
        refine z_callS E G hl.1 (c_X1_nextPlace l D k4 rs rk ((iter (rkStep rk) j (-1, S)).1) hk9 b2.1) kS_X1_79 ⟨rfl, rfl, Nat.le_of_ble_eq_true rfl, Nat.le_of_ble_eq_true rfl⟩ [3] rfl (by decide) rfl rfl (Nat.le_of_ble_eq_true rfl) dX1_shareByRank_12 ⟨by first | exact Nat.le_of_ble_eq_true rfl | omega, by first | exact Nat.le_of_ble_eq_true rfl | omega⟩ (fun v9 w9 H locs hq G => ?_)
        obtain ⟨rfl, rfl⟩ := hq
        refine W.eq (g2 := F0 mm 15 ls [.int (iI (npTo rk ((iter (rkStep rk) j (-1, S)).1) 6))]) rfl ?_
        have G : zG D AA ss.heap [(h, .inr (1, [.ref r, .ref q, .int (iI ((iter (rkStep rk) j (-1, S)).2.1))])), (r, .inl (k4 0, 6, .inl (fun k => iI ((iter (rkStep rk) j (-1, S)).2.2.1 k)))), (q, .inl (k4 0, 6, .inl (fun k => iI ((iter (rkStep rk) j (-1, S)).2.2.2 k)))), (rs, .inl (k4 0, 6, .inl (fun k => iI (rk k))))] H locs := G
        refine z_istore_n E [(2, .int (iI (npTo rk ((iter (rkStep rk) j (-1, S)).1) 6))), (0, .ref h), (1, .ref rs), (3, .int (iI (((j : Nat) : Int))))] dX1_shareByRank_15 rfl hl (by decide) rfl (fun ls hl => ?_)
        have b3 := npTo_b hk9 b2.1.1 6 (by decide)
        refine z_aload_n E hl 1 rfl dX1_shareByRank_16 rfl ?_
        refine z_iload_n E hl 0 rfl dX1_shareByRank_17 rfl ?_
        refine z_bipush E dX1_shareByRank_18 (by decide) ?_
        refine z_irem E dX1_shareByRank_20 ⟨by omega, by omega⟩ ⟨by omega, by omega⟩ ?_
        refine z_aload_n E hl 1 rfl dX1_shareByRank_21 rfl ?_
        refine kg_X1_26 E G 0 rfl rfl dX1_shareByRank_22 ?_
        have b4 := b2.2.1
        have b5 : npTo rk (iter (rkStep rk) j (-1, S)).1 6 % 6 = (((npTo rk (iter (rkStep rk) j (-1, S)).1 6 % 6).toNat : Nat) : Int) := by omega
        rw [b5]
        refine z_callV E G hl.1 (c_X1_give l D k4 h r q ((iter (rkStep rk) j (-1, S)).2) ((npTo rk (iter (rkStep rk) j (-1, S)).1 6 % 6).toNat) ((iter (rkStep rk) j (-1, S)).2.1) b2.2 (by omega) ⟨b4.1, by omega⟩) kV_X1_69 ⟨rfl, rfl, Nat.le_of_ble_eq_true rfl, Nat.le_of_ble_eq_true rfl⟩ [0, 1, 2] rfl (by decide) 0 1 rfl rfl rfl rfl rfl (Nat.le_of_ble_eq_true rfl) dX1_shareByRank_25 ⟨by first | exact Nat.le_of_ble_eq_true rfl | omega, by first | exact Nat.le_of_ble_eq_true rfl | omega⟩ (fun v9 w9 H locs hq G => ?_)
        obtain ⟨rfl, rfl⟩ := hq
        refine W.eq (g2 := F0 mm 28 ls []) rfl ?_
        have G : zG D AA ss.heap [(h, .inr (1, [.ref r, .ref q, .int (iI ((giveS ((npTo rk (iter (rkStep rk) j (-1, S)).1 6 % 6).toNat) ((iter (rkStep rk) j (-1, S)).2.1) ((iter (rkStep rk) j (-1, S)).2)).1))])), (r, .inl (k4 0, 6, .inl (fun k => iI ((giveS ((npTo rk (iter (rkStep rk) j (-1, S)).1 6 % 6).toNat) ((iter (rkStep rk) j (-1, S)).2.1) ((iter (rkStep rk) j (-1, S)).2)).2.1 k)))), (q, .inl (k4 0, 6, .inl (fun k => iI ((giveS ((npTo rk (iter (rkStep rk) j (-1, S)).1 6 % 6).toNat) ((iter (rkStep rk) j (-1, S)).2.1) ((iter (rkStep rk) j (-1, S)).2)).2.2 k)))), (rs, .inl (k4 0, 6, .inl (fun k => iI (rk k))))] H locs := G
        refine z_iinc E [(3, .int (iI (((j : Nat) : Int) + 1))), (2, .int (iI (npTo rk ((iter (rkStep rk) j (-1, S)).1) 6))), (0, .ref h), (1, .ref rs)] dX1_shareByRank_28 hl (k := 3) rfl (by decide) rfl (fun ls hl => ?_)
        refine z_goto (tgt := 4) E dX1_shareByRank_31 (by decide) ?_
        exact ih4_1 (j + 1) _ _ _ (by omega) (by omega) G (lv_sub hl [2, 3, 1, 0] rfl)
  exact hp4_1 7 0 _ _ _ (by decide) (by decide) G (lv_sub hl [2, 3, 1, 0] rfl)
