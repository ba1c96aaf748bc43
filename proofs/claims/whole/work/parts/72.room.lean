/-! how many cells the calls make -/
theorem cB_one {b b' : Nat → Bool} {m : Nat} : ∀ q : Nat, (∀ k, k < q → k ≠ m → b' k = true → b k = true) → cB b' q ≤ cB b q + (if m < q then 1 else 0)
  | 0, _ => Nat.zero_le _
  | q + 1, h => by
    have ih := cB_one q (fun k hk => h k (by omega))
    have e1 : cB b' (q + 1) = if b' q = true then cB b' q + 1 else cB b' q := rfl
    have e2 : cB b (q + 1) = if b q = true then cB b q + 1 else cB b q := rfl
    rw [e1, e2]
    by_cases c : q = m
    · rw [if_neg (by omega)] at ih
      rw [if_pos (show m < q + 1 by omega)]
      split <;> split <;> omega
    · have h9 := h q (by omega) c
      have e3 : (if m < q + 1 then 1 else 0) = (if m < q then 1 else 0) := by
        by_cases c2 : m < q
        · rw [if_pos c2, if_pos (by omega)]
        · rw [if_neg c2, if_neg (by omega)]
      rw [e3]
      split
      · rename_i hb; rw [if_pos (h9 hb)]; omega
      · split <;> omega
theorem rdC_6 {g u : Nat → Int} : rdC g u ≤ 6 := cB_max 6
theorem rdC_one {g u : Nat → Int} {m : Nat} {a b : Int} : rdC (up g m a) (up u m b) ≤ rdC g u + 1 := by
  have h := cB_one (b := fun k => decide (g k ≠ 0 ∨ u k ≠ 0)) (b' := fun k => decide (up g m a k ≠ 0 ∨ up u m b k ≠ 0)) (m := m) 6 (fun k _ hk h9 => by
    have h8 := of_decide_eq_true h9
    rw [up_n hk, up_n hk] at h8
    exact decide_eq_true h8)
  have h2 : (if m < 6 then 1 else 0) ≤ 1 := by split <;> omega
  show cB (fun k => decide (up g m a k ≠ 0 ∨ up u m b k ≠ 0)) 6 ≤ cB (fun k => decide (g k ≠ 0 ∨ u k ≠ 0)) 6 + 1
  omega
def rcN (GE US : Nat → Int) : Nat → Nat
  | 0 => 0
  | j + 1 => rcN GE US j + rdC (fun m => GE (48 * m + j)) (fun m => US (48 * m + j))
theorem rcN_s {GE US : Nat → Int} {j : Nat} : rcN GE US (j + 1) = rcN GE US j + rdC (fun m => GE (48 * m + j)) (fun m => US (48 * m + j)) := rfl
theorem rcN_6 {GE US : Nat → Int} : ∀ q : Nat, rcN GE US q ≤ 6 * q
  | 0 => Nat.le_refl _
  | q + 1 => by
    have ih := rcN_6 (GE := GE) (US := US) q
    have h := rdC_6 (g := fun m => GE (48 * m + q)) (u := fun m => US (48 * m + q))
    rw [rcN_s]
    omega
theorem rcN_le {GE US : Nat → Int} {q : Nat} : ∀ d : Nat, rcN GE US q ≤ rcN GE US (q + d)
  | 0 => Nat.le_refl _
  | d + 1 => by
    have ih := rcN_le (GE := GE) (US := US) (q := q) d
    have e : rcN GE US (q + (d + 1)) = rcN GE US (q + d) + _ := rcN_s
    rw [e]
    exact Nat.le_trans ih (Nat.le_add_right _ _)
theorem sX_rc {GE US : Nat → Int} {k : Nat} : ∀ i : Nat, sX GE US k i + 2 * rcN GE US k = 18 * i + 2 * rcN GE US (k + i)
  | 0 => by show 0 + 2 * rcN GE US k = 18 * 0 + 2 * rcN GE US k; omega
  | i + 1 => by
    have ih := sX_rc (GE := GE) (US := US) (k := k) i
    have e : rcN GE US (k + (i + 1)) = rcN GE US (k + i) + rdC (fun m => GE (48 * m + (k + i))) (fun m => US (48 * m + (k + i))) := rcN_s
    have e2 : sX GE US k (i + 1) = sX GE US k i + (18 + 2 * rdC (fun m => GE (48 * m + (k + i))) (fun m => US (48 * m + (k + i)))) := rfl
    rw [e, e2]
    omega
theorem rdC_congr {g g' u u' : Nat → Int} (h1 : ∀ k, k < 6 → g k = g' k) (h2 : ∀ k, k < 6 → u k = u' k) : rdC g u = rdC g' u' := cB_congr 6 (fun k hk => by
  show decide (g k ≠ 0 ∨ u k ≠ 0) = decide (g' k ≠ 0 ∨ u' k ≠ 0)
  rw [h1 k hk, h2 k hk])
theorem rcN_set {GE US : Nat → Int} {m k : Nat} {a b : Int} (hk : k < 48) : ∀ q : Nat, q ≤ 48 → rcN (up GE (48 * m + k) a) (up US (48 * m + k) b) q ≤ rcN GE US q + (if k < q then 1 else 0)
  | 0, _ => Nat.zero_le _
  | q + 1, hq => by
    have ih := rcN_set (GE := GE) (US := US) (m := m) (a := a) (b := b) hk q (by omega)
    rw [rcN_s, rcN_s]
    by_cases c : q = k
    · subst c
      rw [if_neg (by omega)] at ih
      rw [if_pos (by omega)]
      have h1 : rdC (fun x => up GE (48 * m + q) a (48 * x + q)) (fun x => up US (48 * m + q) b (48 * x + q)) = rdC (up (fun x => GE (48 * x + q)) m a) (up (fun x => US (48 * x + q)) m b) := rdC_congr
        (fun x _ => by
          show (if 48 * x + q = 48 * m + q then a else GE (48 * x + q)) = (if x = m then a else GE (48 * x + q))
          by_cases c2 : x = m
          · rw [if_pos c2, if_pos (by omega)]
          · rw [if_neg c2, if_neg (by omega)])
        (fun x _ => by
          show (if 48 * x + q = 48 * m + q then b else US (48 * x + q)) = (if x = m then b else US (48 * x + q))
          by_cases c2 : x = m
          · rw [if_pos c2, if_pos (by omega)]
          · rw [if_neg c2, if_neg (by omega)])
      have h2 := rdC_one (g := fun x => GE (48 * x + q)) (u := fun x => US (48 * x + q)) (m := m) (a := a) (b := b)
      rw [h1]
      omega
    · have h1 : rdC (fun x => up GE (48 * m + k) a (48 * x + q)) (fun x => up US (48 * m + k) b (48 * x + q)) = rdC (fun x => GE (48 * x + q)) (fun x => US (48 * x + q)) := rdC_congr
        (fun x _ => up_n (by omega)) (fun x _ => up_n (by omega))
      have e3 : (if k < q + 1 then 1 else 0) = (if k < q then 1 else 0) := by
        by_cases c2 : k < q
        · rw [if_pos c2, if_pos (by omega)]
        · rw [if_neg c2, if_neg (by omega)]
      rw [h1, e3]
      omega
def S2N : Nat → Nat
  | 0 => 0
  | u + 1 => S2N u + 2 * min (u + 1) 288
theorem S2N_s {u : Nat} : S2N (u + 1) = S2N u + 2 * min (u + 1) 288 := rfl
theorem S2N_lo : ∀ u : Nat, u ≤ 288 → S2N u = u * (u + 1)
  | 0, _ => rfl
  | u + 1, h => by
    rw [S2N_s, S2N_lo u (by omega), Nat.min_eq_left h]
    simp only [Nat.add_mul, Nat.mul_add]
    omega
theorem S2N_hi : ∀ d : Nat, S2N (288 + d) = 83232 + 576 * d
  | 0 => by rw [S2N_lo (288 + 0) (by omega)]
  | d + 1 => by
    have e : S2N (288 + (d + 1)) = S2N (288 + d) + 2 * min (288 + d + 1) 288 := rfl
    rw [e, S2N_hi d, Nat.min_eq_right (by omega)]
    omega
theorem S2N_le {u : Nat} : ∀ d : Nat, S2N u ≤ S2N (u + d)
  | 0 => Nat.le_refl _
  | d + 1 => Nat.le_trans (S2N_le d) (by have e : S2N (u + (d + 1)) = S2N (u + d) + 2 * min (u + d + 1) 288 := rfl; rw [e]; exact Nat.le_add_right _ _)
/-- cells that p closings and u other calls make -/
def BB (p u : Nat) : Nat := 29 * p + 18 * max p 10 * u + S2N u
theorem BB_u {p u : Nat} : BB p (u + 1) = BB p u + (18 * max p 10 + 2 * min (u + 1) 288) := by
  unfold BB
  rw [S2N_s, Nat.mul_succ]
  omega
theorem BB_p {p u : Nat} : BB p u + 29 ≤ BB (p + 1) u := by
  unfold BB
  have h : 18 * max p 10 * u ≤ 18 * max (p + 1) 10 * u := Nat.mul_le_mul_right u (by omega)
  omega
theorem BB_48 : ∀ p, p < 49 → 29 * p + 18 * max p 10 * (512 - p) + (83232 + 576 * (224 - p)) ≤ 600000 := by decide
theorem BB_max {p u : Nat} (hp : p ≤ 48) (h : p + u ≤ 512) : BB p u ≤ 600000 := by
  have h1 : 18 * max p 10 * u ≤ 18 * max p 10 * (512 - p) := Nat.mul_le_mul_left _ (by omega)
  have h2 := S2N_le (u := u) (512 - p - u)
  have h3 := S2N_hi (224 - p)
  rw [show 288 + (224 - p) = 512 - p by omega] at h3
  rw [show u + (512 - p - u) = 512 - p by omega, h3] at h2
  have h4 := BB_48 p (by omega)
  unfold BB
  omega
