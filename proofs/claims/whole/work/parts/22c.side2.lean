def q_c_X1_nextPlace (k4 : Nat → ClassId) (rs : Nat) (rk : Nat → Int) (last : Int) : Option Value → va_W → Prop := (fun (v9 : Option Value) (w9 : va_W) => v9 = some (.int (iI (npTo rk last 6))) ∧ w9 = [(rs, .inl (k4 0, 6, .inl (fun k => iI (rk k))))])
set_option maxHeartbeats 4000000 in
set_option maxRecDepth 100000 in
theorem c_X1_nextPlace (l : Launch) (D : va_G) (k4 : Nat → ClassId) (rs : Nat) (rk : Nat → Int) (last : Int) (hk9 : ∀ k, k < 6 → 0 ≤ rk k ∧ rk k ≤ 99) (hla : -1 ≤ last ∧ last ≤ 600) : zC l yX1_nextPlace (zW yX1_nextPlace cX1_nextPlace 5 (some .int)) ({ frames := 1, cells := 0, slots := 0, locals := 21 } : Room) D k4 [.ref rs, .int (iI (last))] [(rs, .inl (k4 0, 6, .inl (fun k => iI (rk k))))] (0) (0) (q_c_X1_nextPlace k4 rs rk last) := by
  refine zC_of (cc := cX1_nextPlace) (by decide) (Nat.le_of_ble_eq_true rfl) (fun pp ee ss mm bl me co AA ls E hr hlocks hin G hl => ?_)
  have hl : lv_has ls 5 [(0, .ref rs), (1, .int (iI (last)))] := hl
  refine z_sipush E dX1_nextPlace_0 (by decide) ?_
  refine z_istore_n E [(2, .int (iI (600))), (0, .ref rs), (1, .int (iI (last)))] dX1_nextPlace_3 rfl hl (by decide) rfl (fun ls hl => ?_)
  refine z_iconst E dX1_nextPlace_4 ?_
  refine z_istore_n E [(3, .int (iI (0))), (2, .int (iI (600))), (0, .ref rs), (1, .int (iI (last)))] dX1_nextPlace_5 rfl hl (by decide) rfl (fun ls hl => ?_)
  have hp6_1 : ∀ (n9 : Nat) (j : Nat) (H : Heap) (locs : List Loc) (ls : Array Slot), (6 - j < n9) → (j ≤ 6) → zG D AA ss.heap [(rs, .inl (k4 0, 6, .inl (fun k => iI (rk k))))] H locs → lv_has ls 5 [(0, .ref rs), (1, .int (iI (last))), (2, .int (iI (npTo rk last j))), (3, .int (iI (((j : Nat) : Int))))] → W pp l ee ({ frames := 1, cells := 0, slots := 0, locals := 21 } : Room) ss mm ([.ref rs, .int (iI (last))] : List Value).toArray bl me co H locs (0) (0) (MQ bl (zQ D [(rs, .inl (k4 0, 6, .inl (fun k => iI (rk k))))] AA (q_c_X1_nextPlace k4 rs rk last)) ([.ref rs, .int (iI (last))] : List Value).toArray ss (0) (0) AA) (F0 mm 6 ls []) := by
    intro n9
    induction n9 with
    | zero => intro j H locs ls hn9 hj G hl; exact absurd hn9 (by omega)
    | succ n9 ih =>
      intro j H locs ls hn9 hj G hl
      have ih6_1 := @ih
      have b2 := npTo_b hk9 hla.1 j hj
      refine z_iload_n E hl 3 rfl dX1_nextPlace_6 rfl ?_
      refine z_bipush E dX1_nextPlace_7 (by decide) ?_
      refine z_icmp_ge (tgt := 45) E dX1_nextPlace_9 (by decide) ⟨by omega, by omega⟩ (by decide) (fun c_9 => ?_) (fun c_9 => ?_)
      · skip
        obtain rfl : j = 6 := by omega
        refine z_iload_n E hl 2 rfl dX1_nextPlace_45 rfl ?_
        exact z_iret (w' := [(rs, .inl (k4 0, 6, .inl (fun k => iI (rk k))))]) (v := npTo rk last 6) E hr hlocks G dX1_nextPlace_46 (by omega) (by omega) (zx0 rfl) ⟨rfl, rfl⟩
      · skip
        refine z_aload_n E hl 0 rfl dX1_nextPlace_12 rfl ?_
        refine z_iload_n E hl 3 rfl dX1_nextPlace_13 rfl ?_
        refine z_callSN E G hl.1 (c_X4_at l D k4 rs 6 rk j (by omega) (by decide)) kSN_X1_18 ⟨rfl, rfl, Nat.le_of_ble_eq_true rfl, Nat.le_of_ble_eq_true rfl⟩ [0] rfl (by decide) rfl rfl (Nat.le_of_ble_eq_true rfl) dX1_nextPlace_14 ⟨by first | exact Nat.le_of_ble_eq_true rfl | omega, by first | exact Nat.le_of_ble_eq_true rfl | omega⟩ (fun v9 w9 H locs hq G => ?_)
        obtain ⟨rfl, rfl⟩ := hq
        refine W.eq (g2 := F0 mm 17 ls [.int (iI (rk j))]) rfl ?_
        have G : zG D AA ss.heap [(rs, .inl (k4 0, 6, .inl (fun k => iI (rk k))))] H locs := G
        have b3 := hk9 j (by omega)
        refine z_bipush E dX1_nextPlace_17 (by decide) ?_
        refine z_imul E dX1_nextPlace_19 ?_
        refine z_iload_n E hl 3 rfl dX1_nextPlace_20 rfl ?_
        refine z_iadd E dX1_nextPlace_21 ?_
        refine z_istore E [(4, .int (iI (((rk j) * (6)) + (((j : Nat) : Int))))), (0, .ref rs), (1, .int (iI (last))), (2, .int (iI (npTo rk last j))), (3, .int (iI (((j : Nat) : Int))))] dX1_nextPlace_22 hl (by decide) rfl (fun ls hl => ?_)
        refine z_iload E hl 0 rfl dX1_nextPlace_24 ?_
        refine z_iload_n E hl 2 rfl dX1_nextPlace_26 rfl ?_
        refine z_icmp_le (tgt := 39) E dX1_nextPlace_27 (by decide) ⟨by omega, by omega⟩ ⟨by omega, by omega⟩ (fun c_27 => ?_) (fun c_27 => ?_)
        · skip
          have e9 : npTo rk last j = npTo rk last (j + 1) := by show _ = (if _ ∧ _ then _ else _); rw [if_neg (by omega)]
          rw [e9] at hl
          have hl : lv_has ls 5 [(4, .int (iI (((rk j) * (6)) + (((j : Nat) : Int))))), (0, .ref rs), (1, .int (iI (last))), (2, .int (iI (npTo rk last (j + 1)))), (3, .int (iI (((j : Nat) : Int))))] := hl
          refine z_iinc E [(3, .int (iI (((j : Nat) : Int) + 1))), (4, .int (iI (((rk j) * (6)) + (((j : Nat) : Int))))), (0, .ref rs), (1, .int (iI (last))), (2, .int (iI (npTo rk last (j + 1))))] dX1_nextPlace_39 hl (k := 4) rfl (by decide) rfl (fun ls hl => ?_)
          refine z_goto (tgt := 6) E dX1_nextPlace_42 (by decide) ?_
          exact ih6_1 (j + 1) _ _ _ (by omega) (by omega) G (lv_sub hl [2, 3, 4, 0] rfl)
        · skip
          refine z_iload E hl 0 rfl dX1_nextPlace_30 ?_
          refine z_iload_n E hl 3 rfl dX1_nextPlace_32 rfl ?_
          refine z_icmp_ge (tgt := 39) E dX1_nextPlace_33 (by decide) ⟨by omega, by omega⟩ ⟨by omega, by omega⟩ (fun c_33 => ?_) (fun c_33 => ?_)
          · skip
            have e9 : npTo rk last j = npTo rk last (j + 1) := by show _ = (if _ ∧ _ then _ else _); rw [if_neg (by omega)]
            rw [e9] at hl
            have hl : lv_has ls 5 [(4, .int (iI (((rk j) * (6)) + (((j : Nat) : Int))))), (0, .ref rs), (1, .int (iI (last))), (2, .int (iI (npTo rk last (j + 1)))), (3, .int (iI (((j : Nat) : Int))))] := hl
            refine z_iinc E [(3, .int (iI (((j : Nat) : Int) + 1))), (4, .int (iI (((rk j) * (6)) + (((j : Nat) : Int))))), (0, .ref rs), (1, .int (iI (last))), (2, .int (iI (npTo rk last (j + 1))))] dX1_nextPlace_39 hl (k := 4) rfl (by decide) rfl (fun ls hl => ?_)
            refine z_goto (tgt := 6) E dX1_nextPlace_42 (by decide) ?_
            exact ih6_1 (j + 1) _ _ _ (by omega) (by omega) G (lv_sub hl [2, 3, 4, 0] rfl)
          · skip
            have e9 : rk j * 6 + ((j : Nat) : Int) = npTo rk last (j + 1) := by show _ = (if _ ∧ _ then _ else _); rw [if_pos (by omega)]
            refine z_iload E hl 0 rfl dX1_nextPlace_36 ?_
            refine z_eq (y := npTo rk last (j + 1)) e9 ?_
            refine z_istore_n E [(2, .int (iI (npTo rk last (j + 1)))), (4, .int (iI (((rk j) * (6)) + (((j : Nat) : Int))))), (0, .ref rs), (1, .int (iI (last))), (3, .int (iI (((j : Nat) : Int))))] dX1_nextPlace_38 rfl hl (by decide) rfl (fun ls hl => ?_)
            refine z_iinc E [(3, .int (iI (((j : Nat) : Int) + 1))), (2, .int (iI (npTo rk last (j + 1)))), (4, .int (iI (((rk j) * (6)) + (((j : Nat) : Int))))), (0, .ref rs), (1, .int (iI (last)))] dX1_nextPlace_39 hl (k := 4) rfl (by decide) rfl (fun ls hl => ?_)
            refine z_goto (tgt := 6) E dX1_nextPlace_42 (by decide) ?_
            exact ih6_1 (j + 1) _ _ _ (by omega) (by omega) G (lv_sub hl [3, 4, 1, 0] rfl)
  exact hp6_1 7 0 _ _ _ (by decide) (by decide) G (lv_sub hl [2, 3, 1, 0] rfl)
