theorem am_f (nw : Nat → Int) (n k : Nat) (h : k < 7) : up (up nw (7 + n) 10) (13 + n) n k = nw k := by rw [up_n (by omega), up_n (by omega)]
theorem am_sh (nw : Nat → Int) (n k : Nat) (hk : k < 6) : up (fun i => nw (7 + i)) n 10 k = up (up nw (7 + n) 10) (13 + n) n (7 + k) := by
  rw [up_n (show 7 + k ≠ 13 + n by omega)]
  unfold up
  by_cases h : k = n
  · rw [if_pos h, if_pos (by omega)]
  · rw [if_neg h, if_neg (by omega)]
theorem am_rk (nw : Nat → Int) (n k : Nat) (hn : n < 6) (hk : k < 6) : up (fun i => nw (13 + i)) n n k = up (up nw (7 + n) 10) (13 + n) n (13 + k) := by
  unfold up
  by_cases h : k = n
  · rw [if_pos h, if_pos (by omega)]
  · rw [if_neg h, if_neg (by omega), if_neg (by omega)]
theorem sm_f (nw : Nat → Int) (m k : Nat) (a b : Int) (h : k < 7) : up (up nw (7 + m) a) (13 + m) b k = nw k := by rw [up_n (by omega), up_n (by omega)]
theorem sm_sh (nw : Nat → Int) (m k : Nat) (a b : Int) (hm : m < 6) (hk : k < 6) : up (fun i => nw (7 + i)) m a k = up (up nw (7 + m) a) (13 + m) b (7 + k) := by
  rw [up_n (show 7 + k ≠ 13 + m by omega)]
  unfold up
  by_cases h : k = m
  · rw [if_pos h, if_pos (by omega)]
  · rw [if_neg h, if_neg (by omega)]
theorem sm_rk (nw : Nat → Int) (m k : Nat) (a b : Int) (hm : m < 6) (hk : k < 6) : up (fun i => nw (13 + i)) m b k = up (up nw (7 + m) a) (13 + m) b (13 + k) := by
  unfold up
  by_cases h : k = m
  · rw [if_pos h, if_pos (by omega)]
  · rw [if_neg h, if_neg (by omega), if_neg (by omega)]
