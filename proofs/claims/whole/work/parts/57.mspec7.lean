theorem sX_le {GE US : Nat → Int} {k : Nat} : ∀ {i j : Nat}, i ≤ j → sX GE US k i ≤ sX GE US k j := by
  intro i j h
  induction j with
  | zero => rw [show i = 0 by omega]; exact Nat.le_refl _
  | succ j ih =>
    by_cases hi : i = j + 1
    · rw [hi]; exact Nat.le_refl _
    · have h1 := ih (by omega)
      show sX GE US k i ≤ sX GE US k j + _
      omega
theorem aft_b2 {g u t : Nat → Int} {cb : Int} (hg : rdOK g) (hu : rdOK u) (ht : tOK t) (hc : 0 ≤ cb ∧ cb ≤ t 4) : 0 ≤ CAft g u t cb ∧ CAft g u t cb ≤ 20000 := by
  have h := clA_b (f := fun _ => 0) hg hu ht hc sOK_0 sOK_0
  rw [clA_can] at h
  have h4 := ht.2.2.2.2.1
  omega
