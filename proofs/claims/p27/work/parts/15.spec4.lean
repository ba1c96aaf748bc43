/-- the terms of a new object -/
def t00 : Nat → Int := fun k => if k = 1 then 30 else if k = 2 then 8 else if k = 3 then 18 else if k = 6 then 100 else 0
theorem cp_rd {X Y : Nat → Int} (hX : rdOK X) (hY : rdOK Y) (j : Nat) : rdOK (cp X Y j) := by
  intro k hk
  unfold cp
  split
  · exact hX k hk
  · exact hY k hk
theorem t00_hi (a k : Nat) (h : 7 ≤ a) : t00 (a + k) = 0 := by
  unfold t00
  rw [if_neg (by omega), if_neg (by omega), if_neg (by omega), if_neg (by omega)]
