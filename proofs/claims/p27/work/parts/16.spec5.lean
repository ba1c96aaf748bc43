/-- a slot's flows: amounts, and the money at 7 -/
def flOK (f : Nat → Int) : Prop := (∀ m, m < 6 → ∀ k, k < 7 → 0 ≤ f (m * 8 + k) ∧ f (m * 8 + k) ≤ 5000) ∧ ∀ m, m < 6 → -10000000 ≤ f (m * 8 + 7) ∧ f (m * 8 + 7) ≤ 10000000
def bookB (bal f : Nat → Int) (sg : Int) : Nat → Nat → Int
  | 0 => bal
  | j + 1 => up (bookB bal f sg j) j (bookB bal f sg j j + sg * f (j * 8 + 7))
def bookP (t f : Nat → Int) (sg : Int) : Int := sg * t 3 * (sumN (fun m => f (m * 8 + 2)) 6 - sumN (fun m => f (m * 8 + 5)) 6)
def bookG (t f : Nat → Int) (sg : Int) : Int := sg * (t 1 * sumN (fun m => f (m * 8 + 3)) 6 - t 2 * sumN (fun m => f (m * 8 + 6)) 6)
def mixF (f : Nat → Int) (m : Nat) (d : Int) : Nat → Int
  | 0 => d
  | k + 1 => mixF f m d k * 31 + f (m * 8 + k)
def mixM (g u f : Nat → Int) (d : Int) : Nat → Int
  | 0 => d
  | m + 1 => mixF f m ((mixM g u f d m * 31 + g m) * 31 + u m) 8
theorem fl_sum {f : Nat → Int} (hf : flOK f) {w : Nat} (hw : w < 7) : 0 ≤ sumN (fun m => f (m * 8 + w)) 6 ∧ sumN (fun m => f (m * 8 + w)) 6 ≤ 30000 := by
  have := sumN_b (F := fun m => f (m * 8 + w)) (B := 5000) 6 (fun k hk => hf.1 k hk w hw)
  omega
theorem sgn_b {sg x B : Int} (hs : sg = 1 ∨ sg = -1) (h : -B ≤ x ∧ x ≤ B) : -B ≤ sg * x ∧ sg * x ≤ B := by
  rcases hs with rfl | rfl <;> omega
theorem bookP_b {t f : Nat → Int} {sg : Int} (ht : tOK t) (hf : flOK f) (hs : sg = 1 ∨ sg = -1) : -3000000 ≤ bookP t f sg ∧ bookP t f sg ≤ 3000000 := by
  have h1 := fl_sum hf (w := 2) (by omega)
  have h2 := fl_sum hf (w := 5) (by omega)
  obtain ⟨_, _, _, h3, _⟩ := ht
  unfold bookP
  generalize sumN (fun m => f (m * 8 + 2)) 6 = a at h1 ⊢
  generalize sumN (fun m => f (m * 8 + 5)) 6 = b at h2 ⊢
  have := mulS (a := a - b) (A := 30000) (b := t 3) (B := 100) (by omega) (by omega) h3.1 h3.2
  rw [Int.mul_assoc, Int.mul_comm (t 3)]
  exact sgn_b hs (by omega)
theorem bookG_b {t f : Nat → Int} {sg : Int} (ht : tOK t) (hf : flOK f) (hs : sg = 1 ∨ sg = -1) : -6000000 ≤ bookG t f sg ∧ bookG t f sg ≤ 6000000 := by
  have h1 := fl_sum hf (w := 3) (by omega)
  have h2 := fl_sum hf (w := 6) (by omega)
  obtain ⟨_, h3, h4, _⟩ := ht
  unfold bookG
  generalize sumN (fun m => f (m * 8 + 3)) 6 = a at h1 ⊢
  generalize sumN (fun m => f (m * 8 + 6)) 6 = b at h2 ⊢
  have k1 := mulB h3.1 h3.2 h1.1 h1.2
  have k2 := mulB h4.1 h4.2 h2.1 h2.2
  exact sgn_b hs (by omega)
theorem fl_b {f : Nat → Int} (hf : flOK f) {m k : Nat} (hm : m < 6) (hk : k < 8) : -10000000 ≤ f (m * 8 + k) ∧ f (m * 8 + k) ≤ 10000000 := by
  rcases Nat.lt_or_ge k 7 with h | h
  · have := hf.1 m hm k h; omega
  · obtain rfl : k = 7 := by omega
    exact hf.2 m hm
