def q_c_X4_at (k4 : Nat → ClassId) (a n : Nat) (F : Nat → Int) (j : Nat) : Option Value → va_W → Prop := (fun (v9 : Option Value) (w9 : va_W) => v9 = some (.int (iI (F j))) ∧ w9 = [(a, .inl (k4 0, n, .inl (fun i9 => iI (F i9))))])
set_option maxHeartbeats 4000000 in
set_option maxRecDepth 100000 in
theorem c_X4_at (l : Launch) (D : va_G) (k4 : Nat → ClassId) (a n : Nat) (F : Nat → Int) (j : Nat) (hj : j < n) (hn : n < 2147483648) : zC l yX4_at (zW yX4_at cX4_at 2 (some .int)) ({ frames := 0, cells := 0, slots := 0, locals := 0 } : Room) D k4 [.ref a, .int (iI (((j : Nat) : Int)))] [(a, .inl (k4 0, n, .inl (fun i9 => iI (F i9))))] (0) (0) (q_c_X4_at k4 a n F j) := by
  refine zC_of (cc := cX4_at) (by decide) (Nat.le_of_ble_eq_true rfl) (fun pp ee ss mm bl me co AA H locs ls E hr hlocks hin G hl => ?_)
  have hl : lv_has ls 2 [(0, .ref a), (1, .int (iI (((j : Nat) : Int))))] := hl
  refine z_aload_n E hl 0 rfl dX4_at_0 rfl ?_
  refine z_ifnull E dX4_at_1 ?_
  refine z_iload_n E hl 1 rfl dX4_at_4 rfl ?_
  refine z_if_lt (tgt := 20) E dX4_at_5 (by decide) ⟨by omega, by omega⟩ (fun c_5 => absurd c_5 (by omega)) (fun c_5 => ?_)
  refine z_iload_n E hl 1 rfl dX4_at_8 rfl ?_
  refine z_aload_n E hl 0 rfl dX4_at_9 rfl ?_
  refine z_alen E G 0 0 rfl rfl dX4_at_10 ?_
  refine z_icmp_ge (tgt := 20) E dX4_at_11 (by decide) ⟨by omega, by omega⟩ ⟨by omega, by omega⟩ (fun c_11 => absurd c_11 (by omega)) (fun c_11 => ?_)
  refine z_aload_n E hl 0 rfl dX4_at_14 rfl ?_
  refine z_iload_n E hl 1 rfl dX4_at_15 rfl ?_
  refine z_iald E G 0 rfl (j) rfl hj hn dX4_at_16 ?_
  refine z_goto (tgt := 21) E dX4_at_17 (by decide) ?_
  exact z_iret (w' := [(a, .inl (k4 0, n, .inl (fun i9 => iI (F i9))))]) (v := F j) E hr hlocks G dX4_at_21 (by omega) (by omega) (zx0 rfl) ⟨rfl, rfl⟩

def q_c_X4_put (k4 : Nat → ClassId) (a n : Nat) (F : Nat → Int) (j : Nat) (x : Int) : Option Value → va_W → Prop := (fun (v9 : Option Value) (w9 : va_W) => v9 = none ∧ w9 = [(a, .inl (k4 0, n, .inl (fun i9 => iI ((up F j x) i9))))])
set_option maxHeartbeats 4000000 in
set_option maxRecDepth 100000 in
theorem c_X4_put (l : Launch) (D : va_G) (k4 : Nat → ClassId) (a n : Nat) (F : Nat → Int) (j : Nat) (x : Int) (hj : j < n) (hn : n < 2147483648) : zC l yX4_put (zW yX4_put cX4_put 3 none) ({ frames := 0, cells := 0, slots := 0, locals := 0 } : Room) D k4 [.ref a, .int (iI (((j : Nat) : Int))), .int (iI (x))] [(a, .inl (k4 0, n, .inl (fun i9 => iI (F i9))))] (0) (0) (q_c_X4_put k4 a n F j x) := by
  refine zC_of (cc := cX4_put) (by decide) (Nat.le_of_ble_eq_true rfl) (fun pp ee ss mm bl me co AA H locs ls E hr hlocks hin G hl => ?_)
  have hl : lv_has ls 3 [(0, .ref a), (1, .int (iI (((j : Nat) : Int)))), (2, .int (iI (x)))] := hl
  refine z_aload_n E hl 0 rfl dX4_put_0 rfl ?_
  refine z_ifnull E dX4_put_1 ?_
  refine z_iload_n E hl 1 rfl dX4_put_4 rfl ?_
  refine z_if_lt (tgt := 18) E dX4_put_5 (by decide) ⟨by omega, by omega⟩ (fun c_5 => absurd c_5 (by omega)) (fun c_5 => ?_)
  refine z_iload_n E hl 1 rfl dX4_put_8 rfl ?_
  refine z_aload_n E hl 0 rfl dX4_put_9 rfl ?_
  refine z_alen E G 0 0 rfl rfl dX4_put_10 ?_
  refine z_icmp_ge (tgt := 18) E dX4_put_11 (by decide) ⟨by omega, by omega⟩ ⟨by omega, by omega⟩ (fun c_11 => absurd c_11 (by omega)) (fun c_11 => ?_)
  refine z_aload_n E hl 0 rfl dX4_put_14 rfl ?_
  refine z_iload_n E hl 1 rfl dX4_put_15 rfl ?_
  refine z_iload_n E hl 2 rfl dX4_put_16 rfl ?_
  refine z_iast E G 0 rfl (j) rfl hj hn dX4_put_17 (fun H locs G => ?_)
  have G : zG D AA ss.heap [(a, .inl (k4 0, n, .inl (fun i9 => iI ((up F (j) (x)) i9))))] H locs := G
  exact z_vret (w' := [(a, .inl (k4 0, n, .inl (fun i9 => iI ((up F (j) (x)) i9))))]) E hr hlocks G dX4_put_18 (by omega) (by omega) (zx0 rfl) ⟨rfl, rfl⟩

def q_c_X4_at_ (k4 : Nat → ClassId) (a n : Nat) (F : Nat → Int) (j : Nat) : Option Value → va_W → Prop := (fun (v9 : Option Value) (w9 : va_W) => v9 = some (.long (lI (F j))) ∧ w9 = [(a, .inl (k4 1, n, .inr (.inl (fun i9 => lI (F i9)))))])
set_option maxHeartbeats 4000000 in
set_option maxRecDepth 100000 in
theorem c_X4_at_ (l : Launch) (D : va_G) (k4 : Nat → ClassId) (a n : Nat) (F : Nat → Int) (j : Nat) (hj : j < n) (hn : n < 2147483648) : zC l yX4_at_ (zW yX4_at_ cX4_at_ 2 (some .long)) ({ frames := 0, cells := 0, slots := 0, locals := 0 } : Room) D k4 [.ref a, .int (iI (((j : Nat) : Int)))] [(a, .inl (k4 1, n, .inr (.inl (fun i9 => lI (F i9)))))] (0) (0) (q_c_X4_at_ k4 a n F j) := by
  refine zC_of (cc := cX4_at_) (by decide) (Nat.le_of_ble_eq_true rfl) (fun pp ee ss mm bl me co AA H locs ls E hr hlocks hin G hl => ?_)
  have hl : lv_has ls 2 [(0, .ref a), (1, .int (iI (((j : Nat) : Int))))] := hl
  refine z_aload_n E hl 0 rfl dX4_at__0 rfl ?_
  refine z_ifnull E dX4_at__1 ?_
  refine z_iload_n E hl 1 rfl dX4_at__4 rfl ?_
  refine z_if_lt (tgt := 20) E dX4_at__5 (by decide) ⟨by omega, by omega⟩ (fun c_5 => absurd c_5 (by omega)) (fun c_5 => ?_)
  refine z_iload_n E hl 1 rfl dX4_at__8 rfl ?_
  refine z_aload_n E hl 0 rfl dX4_at__9 rfl ?_
  refine z_alen E G 0 1 rfl rfl dX4_at__10 ?_
  refine z_icmp_ge (tgt := 20) E dX4_at__11 (by decide) ⟨by omega, by omega⟩ ⟨by omega, by omega⟩ (fun c_11 => absurd c_11 (by omega)) (fun c_11 => ?_)
  refine z_aload_n E hl 0 rfl dX4_at__14 rfl ?_
  refine z_iload_n E hl 1 rfl dX4_at__15 rfl ?_
  refine z_lald E G 0 rfl (j) rfl hj hn dX4_at__16 ?_
  refine z_goto (tgt := 21) E dX4_at__17 (by decide) ?_
  exact z_lret (w' := [(a, .inl (k4 1, n, .inr (.inl (fun i9 => lI (F i9)))))]) (v := F j) E hr hlocks G dX4_at__21 (by omega) (by omega) (zx0 rfl) ⟨rfl, rfl⟩

def q_c_X4_put_ (k4 : Nat → ClassId) (a n : Nat) (F : Nat → Int) (j : Nat) (x : Int) : Option Value → va_W → Prop := (fun (v9 : Option Value) (w9 : va_W) => v9 = none ∧ w9 = [(a, .inl (k4 1, n, .inr (.inl (fun i9 => lI ((up F j x) i9)))))])
set_option maxHeartbeats 4000000 in
set_option maxRecDepth 100000 in
theorem c_X4_put_ (l : Launch) (D : va_G) (k4 : Nat → ClassId) (a n : Nat) (F : Nat → Int) (j : Nat) (x : Int) (hj : j < n) (hn : n < 2147483648) : zC l yX4_put_ (zW yX4_put_ cX4_put_ 4 none) ({ frames := 0, cells := 0, slots := 0, locals := 0 } : Room) D k4 [.ref a, .int (iI (((j : Nat) : Int))), .long (lI (x))] [(a, .inl (k4 1, n, .inr (.inl (fun i9 => lI (F i9)))))] (0) (0) (q_c_X4_put_ k4 a n F j x) := by
  refine zC_of (cc := cX4_put_) (by decide) (Nat.le_of_ble_eq_true rfl) (fun pp ee ss mm bl me co AA H locs ls E hr hlocks hin G hl => ?_)
  have hl : lv_has ls 4 [(0, .ref a), (1, .int (iI (((j : Nat) : Int)))), (2, .long (lI (x)))] := hl
  refine z_aload_n E hl 0 rfl dX4_put__0 rfl ?_
  refine z_ifnull E dX4_put__1 ?_
  refine z_iload_n E hl 1 rfl dX4_put__4 rfl ?_
  refine z_if_lt (tgt := 18) E dX4_put__5 (by decide) ⟨by omega, by omega⟩ (fun c_5 => absurd c_5 (by omega)) (fun c_5 => ?_)
  refine z_iload_n E hl 1 rfl dX4_put__8 rfl ?_
  refine z_aload_n E hl 0 rfl dX4_put__9 rfl ?_
  refine z_alen E G 0 1 rfl rfl dX4_put__10 ?_
  refine z_icmp_ge (tgt := 18) E dX4_put__11 (by decide) ⟨by omega, by omega⟩ ⟨by omega, by omega⟩ (fun c_11 => absurd c_11 (by omega)) (fun c_11 => ?_)
  refine z_aload_n E hl 0 rfl dX4_put__14 rfl ?_
  refine z_iload_n E hl 1 rfl dX4_put__15 rfl ?_
  refine z_lload_n E hl 2 rfl dX4_put__16 rfl ?_
  refine z_last E G 0 rfl (j) rfl hj hn dX4_put__17 (fun H locs G => ?_)
  have G : zG D AA ss.heap [(a, .inl (k4 1, n, .inr (.inl (fun i9 => lI ((up F (j) (x)) i9)))))] H locs := G
  exact z_vret (w' := [(a, .inl (k4 1, n, .inr (.inl (fun i9 => lI ((up F (j) (x)) i9)))))]) E hr hlocks G dX4_put__18 (by omega) (by omega) (zx0 rfl) ⟨rfl, rfl⟩

def q_c_X4_add (k4 : Nat → ClassId) (a n : Nat) (F : Nat → Int) (j : Nat) (x : Int) : Option Value → va_W → Prop := (fun (v9 : Option Value) (w9 : va_W) => v9 = none ∧ w9 = [(a, .inl (k4 1, n, .inr (.inl (fun i9 => lI ((up F j (F j + x)) i9)))))])
set_option maxHeartbeats 4000000 in
set_option maxRecDepth 100000 in
theorem c_X4_add (l : Launch) (D : va_G) (k4 : Nat → ClassId) (a n : Nat) (F : Nat → Int) (j : Nat) (x : Int) (hj : j < n) (hn : n < 2147483648) : zC l yX4_add (zW yX4_add cX4_add 4 none) ({ frames := 1, cells := 0, slots := 0, locals := 23 } : Room) D k4 [.ref a, .int (iI (((j : Nat) : Int))), .long (lI (x))] [(a, .inl (k4 1, n, .inr (.inl (fun i9 => lI (F i9)))))] (0) (0) (q_c_X4_add k4 a n F j x) := by
  refine zC_of (cc := cX4_add) (by decide) (Nat.le_of_ble_eq_true rfl) (fun pp ee ss mm bl me co AA H locs ls E hr hlocks hin G hl => ?_)
  have hl : lv_has ls 4 [(0, .ref a), (1, .int (iI (((j : Nat) : Int)))), (2, .long (lI (x)))] := hl
  refine z_aload_n E hl 0 rfl dX4_add_0 rfl ?_
  refine z_iload_n E hl 1 rfl dX4_add_1 rfl ?_
  refine z_aload_n E hl 0 rfl dX4_add_2 rfl ?_
  refine z_iload_n E hl 1 rfl dX4_add_3 rfl ?_
  refine z_callS E G hl.1 (c_X4_at_ l D k4 a n F j hj hn) kS_X4_159 ⟨rfl, rfl, Nat.le_of_ble_eq_true rfl, Nat.le_of_ble_eq_true rfl⟩ [0] rfl (by decide) rfl rfl (Nat.le_of_ble_eq_true rfl) dX4_add_4 ⟨by first | exact Nat.le_of_ble_eq_true rfl | omega, by first | exact Nat.le_of_ble_eq_true rfl | omega⟩ (fun v9 w9 H locs hq G => ?_)
  obtain ⟨rfl, rfl⟩ := hq
  refine W.eq (g2 := F0 mm 7 ls [.long (lI (F j)), .int (iI (((j : Nat) : Int))), .ref a]) rfl ?_
  have G : zG D AA ss.heap [(a, .inl (k4 1, n, .inr (.inl (fun i9 => lI (F i9)))))] H locs := G
  refine z_lload_n E hl 2 rfl dX4_add_7 rfl ?_
  refine z_ladd E dX4_add_8 ?_
  refine z_callS E G hl.1 (c_X4_put_ l D k4 a n F j (F j + x) hj hn) kS_X4_192 ⟨rfl, rfl, Nat.le_of_ble_eq_true rfl, Nat.le_of_ble_eq_true rfl⟩ [0] rfl (by decide) rfl rfl (Nat.le_of_ble_eq_true rfl) dX4_add_9 ⟨by first | exact Nat.le_of_ble_eq_true rfl | omega, by first | exact Nat.le_of_ble_eq_true rfl | omega⟩ (fun v9 w9 H locs hq G => ?_)
  obtain ⟨rfl, rfl⟩ := hq
  refine W.eq (g2 := F0 mm 12 ls []) rfl ?_
  have G : zG D AA ss.heap [(a, .inl (k4 1, n, .inr (.inl (fun i9 => lI ((up F j (F j + x)) i9)))))] H locs := G
  exact z_vret (w' := [(a, .inl (k4 1, n, .inr (.inl (fun i9 => lI ((up F j (F j + x)) i9)))))]) E hr hlocks G dX4_add_12 (by omega) (by omega) (zx0 rfl) ⟨rfl, rfl⟩

