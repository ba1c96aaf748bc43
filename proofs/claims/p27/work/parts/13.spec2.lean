theorem rankS_ok {rk : Nat → Int} {S : sS} (hr : ∀ k, k < 6 → 0 ≤ rk k ∧ rk k ≤ 99) (h : sOK S) : ∀ n : Nat, (-1 ≤ (iter (rkStep rk) n (-1, S)).1 ∧ (iter (rkStep rk) n (-1, S)).1 ≤ 600) ∧ sOK (iter (rkStep rk) n (-1, S)).2
  | 0 => ⟨by show (-1 : Int) ≤ -1 ∧ (-1 : Int) ≤ 600; omega, h⟩
  | n + 1 => by
    obtain ⟨h1, h2⟩ := rankS_ok hr h n
    have h3 := npTo_b hr h1.1 6 (by omega)
    refine ⟨?_, giveS_ok h2 (by omega) h2.1.1⟩
    show -1 ≤ npTo rk _ 6 ∧ npTo rk _ 6 ≤ 600
    omega
/-- the first j places 0 -/
def zer (P : Nat → Int) (j : Nat) : Nat → Int := fun k => if k < j then 0 else P k
theorem zer_s (P : Nat → Int) (j : Nat) : up (zer P j) j 0 = zer P (j + 1) := by
  funext k
  unfold up zer
  by_cases h : k = j
  · rw [if_pos h, if_pos (by omega)]
  · rw [if_neg h]
    by_cases h2 : k < j
    · rw [if_pos h2, if_pos (by omega)]
    · rw [if_neg h2, if_neg (by omega)]
theorem zer_0 (P : Nat → Int) : zer P 0 = P := by funext k; exact if_neg (by omega)
/-- terms: rule, buy, sell, among, capacity, power, efficiency, shares, ranks -/
def tOK (t : Nat → Int) : Prop := (0 ≤ t 0 ∧ t 0 ≤ 3) ∧ (0 ≤ t 1 ∧ t 1 ≤ 100) ∧ (0 ≤ t 2 ∧ t 2 ≤ 100) ∧ (0 ≤ t 3 ∧ t 3 ≤ 100) ∧ (0 ≤ t 4 ∧ t 4 ≤ 20000) ∧ (0 ≤ t 5 ∧ t 5 ≤ 5000) ∧ (1 ≤ t 6 ∧ t 6 ≤ 100) ∧ (∀ k, k < 6 → 0 ≤ t (7 + k) ∧ t (7 + k) ≤ 100) ∧ ∀ k, k < 6 → 0 ≤ t (13 + k) ∧ t (13 + k) ≤ 99
theorem tOK_sh {t : Nat → Int} (h : tOK t) : ∀ k, k < 6 → 0 ≤ (fun i => t (7 + i)) k ∧ (fun i => t (7 + i)) k ≤ 100 := h.2.2.2.2.2.2.2.1
theorem tOK_rk {t : Nat → Int} (h : tOK t) : ∀ k, k < 6 → 0 ≤ (fun i => t (13 + i)) k ∧ (fun i => t (13 + i)) k ≤ 99 := h.2.2.2.2.2.2.2.2
