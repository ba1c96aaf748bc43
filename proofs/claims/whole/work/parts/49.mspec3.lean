/-! what a slot's booking is, member by member -/
def mP (t f : Nat → Int) (sg : Int) (n : Nat) : Int := sumN (fun m => sg * t 3 * (f (m * 8 + 2) - f (m * 8 + 5))) n
def mG (t f : Nat → Int) (sg : Int) (n : Nat) : Int := sumN (fun m => sg * (t 1 * f (m * 8 + 3) - t 2 * f (m * 8 + 6))) n
theorem mP_s (t f : Nat → Int) (sg : Int) (j : Nat) : mP t f sg (j + 1) = mP t f sg j + sg * t 3 * (f (j * 8 + 2) - f (j * 8 + 5)) := rfl
theorem mG_s (t f : Nat → Int) (sg : Int) (j : Nat) : mG t f sg (j + 1) = mG t f sg j + sg * (t 1 * f (j * 8 + 3) - t 2 * f (j * 8 + 6)) := rfl
theorem mP_0 {t f : Nat → Int} {sg x : Int} : x + mP t f sg 0 = x := Int.add_zero _
theorem mG_0 {t f : Nat → Int} {sg x : Int} : x + mG t f sg 0 = x := Int.add_zero _
theorem mul3_b {sg t d : Int} (hs : sg = 1 ∨ sg = -1) (ht : 0 ≤ t ∧ t ≤ 100) (hd : -5000 ≤ d ∧ d ≤ 5000) : -500000 ≤ sg * t * d ∧ sg * t * d ≤ 500000 := by
  have := mulS (a := d) (A := 5000) (b := t) (B := 100) hd.1 hd.2 ht.1 ht.2
  rw [Int.mul_assoc, Int.mul_comm t]
  exact sgn_b hs (by omega)
/-- a sum of differences, weighed -/
theorem sum_w (c : Int) (X Y : Nat → Int) : ∀ n : Nat, sumN (fun m => c * (X m - Y m)) n = c * (sumN X n - sumN Y n)
  | 0 => by show (0 : Int) = c * (0 - 0); simp
  | n + 1 => by
    show sumN (fun m => c * (X m - Y m)) n + c * (X n - Y n) = c * (sumN X n + X n - (sumN Y n + Y n))
    rw [sum_w c X Y n, ← Int.mul_add]
    congr 1; omega
theorem sum_c (c : Int) (X : Nat → Int) : ∀ n : Nat, sumN (fun m => c * X m) n = c * sumN X n
  | 0 => by show (0 : Int) = c * 0; simp
  | n + 1 => by
    show sumN (fun m => c * X m) n + c * X n = c * (sumN X n + X n)
    rw [sum_c c X n, Int.mul_add]
/-- flows of those who are not there -/
def flN (n : Nat) (f : Nat → Int) : Prop := ∀ m, n ≤ m → m < 6 → ∀ k, k < 8 → f (m * 8 + k) = 0
theorem sum_f6 {n : Nat} (hn : n ≤ 6) {f : Nat → Int} (h : flN n f) {w : Nat} (hw : w < 8) : sumN (fun m => f (m * 8 + w)) n = sumN (fun m => f (m * 8 + w)) 6 := sumN_6 hn (fun k h1 h2 => h k h1 h2 w hw)
theorem mP_book {n : Nat} (hn : n ≤ 6) {t f : Nat → Int} {sg : Int} (h : flN n f) : mP t f sg n = bookP t f sg := by
  unfold mP bookP
  rw [sum_w (sg * t 3) (fun m => f (m * 8 + 2)) (fun m => f (m * 8 + 5)) n, sum_f6 hn h (by omega), sum_f6 hn h (by omega)]
theorem mG_book {n : Nat} (hn : n ≤ 6) {t f : Nat → Int} {sg : Int} (h : flN n f) : mG t f sg n = bookG t f sg := by
  unfold mG bookG
  rw [sum_w sg (fun m => t 1 * f (m * 8 + 3)) (fun m => t 2 * f (m * 8 + 6)) n, sum_c, sum_c, sum_f6 hn h (by omega), sum_f6 hn h (by omega)]
