/-! numbers of the reference's methods -/
abbrev rngL (z : Int) : Prop := -9223372036854775808 ≤ z ∧ z < 9223372036854775808
theorem lI_toInt {z : Int} (h : rngL z) : (lI z).toInt = z := Int64.toInt_ofInt_of_le (by have := h.1; omega) (by have := h.2; omega)
theorem lcI_is {x y : Int} (hx : rngL x) (hy : rngL y) : lcI x y = if y < x then 1 else if x = y then 0 else -1 := by
  unfold lcI lg_cmp
  have h1 : lI x > lI y ↔ y < x := by rw [gt_iff_lt, Int64.lt_iff_toInt_lt, lI_toInt hx, lI_toInt hy]
  have h2 : lI x = lI y ↔ x = y := by rw [← Int64.toInt_inj, lI_toInt hx, lI_toInt hy]
  by_cases c1 : y < x
  · rw [if_pos (h1.mpr c1), if_pos c1]; rfl
  · rw [if_neg (fun q => c1 (h1.mp q)), if_neg c1]
    by_cases c2 : x = y
    · rw [if_pos (h2.mpr c2), if_pos c2]; rfl
    · rw [if_neg (fun q => c2 (h2.mp q)), if_neg c2]; rfl
theorem lcI_lt {x y : Int} (hx : rngL x) (hy : rngL y) : lcI x y < 0 ↔ x < y := by
  rw [lcI_is hx hy]
  split
  · constructor <;> intro h <;> omega
  · split <;> constructor <;> intro h <;> omega
theorem lcI_gt {x y : Int} (hx : rngL x) (hy : rngL y) : 0 < lcI x y ↔ y < x := by
  rw [lcI_is hx hy]
  split
  · constructor <;> intro h <;> omega
  · split <;> constructor <;> intro h <;> omega
theorem rng_L {x : Int} (h : rng x) : rngL x := ⟨by have := h.1; omega, by have := h.2; omega⟩
def rmF (R : Nat → Int) : Nat → Int := fun k => if 0 < R k then 1 else 0
def rsF (sh R : Nat → Int) : Nat → Int := fun k => if 0 < R k ∧ 0 < sh k then 1 else 0
theorem rmF_01 (R : Nat → Int) (k : Nat) : rmF R k = 0 ∨ rmF R k = 1 := by unfold rmF; split; exact Or.inr rfl; exact Or.inl rfl
theorem rsF_01 (sh R : Nat → Int) (k : Nat) : rsF sh R k = 0 ∨ rsF sh R k = 1 := by unfold rsF; split; exact Or.inr rfl; exact Or.inl rfl
theorem cp_out {X Y : Nat → Int} {j k : Nat} (h : j ≤ k) : cp X Y j k = Y k := if_neg (by omega)
/-- who comes behind a member is not there: no room -/
def nul (n : Nat) (R : Nat → Int) : Prop := ∀ k, n ≤ k → k < 6 → R k = 0
theorem giveTo_stop {f : Nat → Int} {S : sS} (hS : sOK S) (hf : ∀ k, k < 6 → 0 ≤ f k) {j : Nat} (h : (giveTo f j S).1 = 0) : ∀ d : Nat, j + d ≤ 6 → giveTo f (j + d) S = giveTo f j S
  | 0, _ => rfl
  | d + 1, hd => by
    have ih := giveTo_stop hS hf h d (by omega)
    have h1 := (giveTo_ok (f := f) hS (j + d) (by omega) (fun k hk => hf k (by omega))).2 (j + d) (by omega)
    have h2 := hf (j + d) (by omega)
    show giveS (j + d) (f (j + d)) (giveTo f (j + d) S) = _
    refine (giveS_0 ?_).trans ih
    rw [ih, h] at *
    omega
theorem giveTo_stop6 {f : Nat → Int} {S : sS} (hS : sOK S) (hf : ∀ k, k < 6 → 0 ≤ f k) {j : Nat} (hj : j ≤ 6) (h : (giveTo f j S).1 = 0) : giveTo f 6 S = giveTo f j S := by
  have h1 := giveTo_stop hS hf h (6 - j) (by omega)
  rw [show j + (6 - j) = 6 by omega] at h1
  exact h1
theorem giveOne_stop {sh : Nat → Int} {S : sS} (hS : sOK S) {j : Nat} (h : (giveOne sh j S).1 = 0) : ∀ d : Nat, j + d ≤ 6 → giveOne sh (j + d) S = giveOne sh j S
  | 0, _ => rfl
  | d + 1, hd => by
    have ih := giveOne_stop hS h d (by omega)
    have h1 := (giveOne_ok (sh := sh) hS (j + d) (by omega)).2 (j + d) (by omega)
    show (if 0 < sh (j + d) then giveS (j + d) 1 (giveOne sh (j + d) S) else giveOne sh (j + d) S) = _
    split
    · refine (giveS_0 ?_).trans ih
      rw [ih, h] at *
      omega
    · exact ih
theorem giveOne_stop6 {sh : Nat → Int} {S : sS} (hS : sOK S) {j : Nat} (hj : j ≤ 6) (h : (giveOne sh j S).1 = 0) : giveOne sh 6 S = giveOne sh j S := by
  have h1 := giveOne_stop hS h (6 - j) (by omega)
  rw [show j + (6 - j) = 6 by omega] at h1
  exact h1
theorem giveTo_in {R : Nat → Int} {f : Nat → Int} {S : sS} (h : sIn R S) (hS : sOK S) (hf : ∀ k, k < 6 → 0 ≤ f k) (j : Nat) (hj : j ≤ 6) : sIn R (giveTo f j S) := giveTo_cl giveS_in h hS j hj (fun k hk => hf k (by omega))
theorem nul_to {n : Nat} {R : Nat → Int} {S : sS} (h : nul n S.2.1) (hS : sOK S) {f : Nat → Int} (hf : ∀ k, k < 6 → 0 ≤ f k) (j : Nat) (hj : j ≤ 6) : nul n (giveTo f j S).2.1 := fun k h1 h2 => by
  have a := (giveTo_mono hS hf j hj).2 k h2
  have b := (giveTo_ok hS j hj (fun k hk => hf k (by omega))).2 k h2
  have c := h k h1 h2
  omega
theorem one_nn : ∀ k : Nat, k < 6 → (0 : Int) ≤ (fun _ : Nat => (1 : Int)) k := fun _ _ => by show (0 : Int) ≤ 1; decide
/-- one each: nothing is left, where there is room enough -/
theorem ones_end {S : sS} (hS : sOK S) {n : Nat} (hn : n ≤ 6) (h0 : nul n S.2.1) (h : S.1 ≤ (cB (bR S.2.1) 6 : Int)) : (giveTo (fun _ => 1) n S).1 = 0 := by
  rw [giveTo_n6 hS one_nn hn h0, ones_left hS 6 (by omega)]
  omega
