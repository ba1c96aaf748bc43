/-! numbers: an int by its integer, a long by its integer -/
def iI (z : Int) : Int32 := Int32.ofInt z
def lI (z : Int) : Int64 := Int64.ofInt z
abbrev rng (z : Int) : Prop := -2147483648 ≤ z ∧ z < 2147483648
theorem iI_toInt {z : Int} (h : rng z) : (iI z).toInt = z := Int32.toInt_ofInt_of_le (by have := h.1; omega) (by have := h.2; omega)
theorem iI_of (x : Int32) : x = iI x.toInt := (Int32.ofInt_toInt x).symm
theorem iI_rng (x : Int32) : rng x.toInt := ⟨Int32.le_toInt x, Int32.toInt_lt x⟩
theorem iI_add (a b : Int) : iI a + iI b = iI (a + b) := (Int32.ofInt_add a b).symm
theorem iI_sub (a b : Int) : iI a - iI b = iI (a - b) := (Int32.ofInt_sub a b).symm
theorem iI_mul (a b : Int) : iI a * iI b = iI (a * b) := (Int32.ofInt_mul a b).symm
theorem iI_neg (a : Int) : - iI a = iI (-a) := (Int32.ofInt_neg a).symm
theorem lI_add (a b : Int) : lI a + lI b = lI (a + b) := (Int64.ofInt_add a b).symm
theorem lI_sub (a b : Int) : lI a - lI b = lI (a - b) := (Int64.ofInt_sub a b).symm
theorem lI_mul (a b : Int) : lI a * lI b = lI (a * b) := (Int64.ofInt_mul a b).symm
theorem lI_neg (a : Int) : - lI a = lI (-a) := (Int64.ofInt_neg a).symm
theorem iI_le {a b : Int} (ha : rng a) (hb : rng b) : iI a ≤ iI b ↔ a ≤ b := by rw [Int32.le_iff_toInt_le, iI_toInt ha, iI_toInt hb]
theorem iI_lt {a b : Int} (ha : rng a) (hb : rng b) : iI a < iI b ↔ a < b := by rw [Int32.lt_iff_toInt_lt, iI_toInt ha, iI_toInt hb]
theorem iI_eq {a b : Int} (ha : rng a) (hb : rng b) : iI a = iI b ↔ a = b := by
  constructor
  · intro h
    have := congrArg Int32.toInt h
    rwa [iI_toInt ha, iI_toInt hb] at this
  · intro h; rw [h]
theorem iI_0 : iI 0 = 0 := rfl
theorem rng0 : rng 0 := by decide
theorem iI_l {z : Int} (h : rng z) : (iI z).toInt64 = lI z := by
  have h1 : (iI z).toInt64.toInt = z := by rw [Int32.toInt_toInt64, iI_toInt h]
  have h2 : (lI z).toInt = z := Int64.toInt_ofInt_of_le (by have := h.1; omega) (by have := h.2; omega)
  exact Int64.toInt_inj.mp (h1.trans h2.symm)
theorem iI_div {a b : Int} (ha : 0 ≤ a) (ha2 : a < 2147483648) (hb : 0 < b) (hb2 : b < 2147483648) : iI a / iI b = iI (a / b) := by
  have h1 : (iI a).toInt = a := iI_toInt ⟨by omega, ha2⟩
  have h2 : (iI b).toInt = b := iI_toInt ⟨by omega, hb2⟩
  have h3 : iI b ≠ -1 := by
    intro h
    have h4 := congrArg Int32.toInt h
    rw [h2] at h4
    have h5 : (-1 : Int32).toInt = -1 := by decide
    omega
  have hq0 : 0 ≤ a / b := Int.ediv_nonneg ha (by omega)
  have hq1 : a / b ≤ a := Int.ediv_le_self b ha
  apply Int32.toInt_inj.mp
  rw [Int32.toInt_div_of_ne_right _ _ h3, h1, h2, iI_toInt ⟨by omega, by omega⟩, Int.tdiv_eq_ediv_of_nonneg ha]
theorem iI_ne0 {b : Int} (hb : rng b) (h : b ≠ 0) : ¬ iI b = 0 := fun q => h ((iI_eq hb rng0).mp (q.trans iI_0.symm))
theorem iI_min {a b : Int} (ha : rng a) (hb : rng b) : (if iI b < iI a then iI b else iI a) = iI (min a b) := by
  by_cases h : b < a
  · rw [if_pos ((iI_lt hb ha).mpr h), Int.min_eq_right (by omega)]
  · rw [if_neg (fun q => h ((iI_lt hb ha).mp q)), Int.min_eq_left (by omega)]
theorem iI_max {a b : Int} (ha : rng a) (hb : rng b) : (if iI a < iI b then iI b else iI a) = iI (max a b) := by
  by_cases h : a < b
  · rw [if_pos ((iI_lt ha hb).mpr h), Int.max_eq_right (by omega)]
  · rw [if_neg (fun q => h ((iI_lt ha hb).mp q)), Int.max_eq_left (by omega)]
theorem iI_clamp {j : Nat} (h : j < 2147483648) : (iI (j : Int)).toNatClampNeg = j := by
  show (iI (j : Int)).toInt.toNat = j
  rw [iI_toInt ⟨by omega, by omega⟩]; simp
theorem iI_in {j n : Nat} (h : j < n) (hn : n < 2147483648) : vp_in (iI (j : Int)) n := by
  rw [vp_in_iff, iI_toInt ⟨by omega, by omega⟩]; omega
theorem iI_nat (n : Nat) : Int32.ofNat n = iI (n : Int) := rfl
theorem nI_iI (n : Nat) : nI n = iI (n : Int) := rfl
theorem bp_iI (n : Int) (h : -128 ≤ n) (h2 : n < 128) : (Int8.ofInt n).toInt32 = iI n := by
  have h1 : (Int8.ofInt n).toInt32.toInt = n := by
    rw [Int8.toInt_toInt32]; exact Int8.toInt_ofInt_of_le (by omega) (by omega)
  exact Int32.toInt_inj.mp (h1.trans (iI_toInt ⟨by omega, by omega⟩).symm)
theorem sp_iI (n : Int) (h : -32768 ≤ n) (h2 : n < 32768) : (Int16.ofInt n).toInt32 = iI n := by
  have h1 : (Int16.ofInt n).toInt32.toInt = n := by
    rw [Int16.toInt_toInt32]; exact Int16.toInt_ofInt_of_le (by omega) (by omega)
  exact Int32.toInt_inj.mp (h1.trans (iI_toInt ⟨by omega, by omega⟩).symm)
/-- a function of integers with one place changed -/
def up (F : Nat → Int) (j : Nat) (x : Int) : Nat → Int := fun k => if k = j then x else F k
theorem up_s {F : Nat → Int} {j : Nat} {x : Int} : up F j x j = x := if_pos rfl
theorem up_n {F : Nat → Int} {j k : Nat} {x : Int} (h : k ≠ j) : up F j x k = F k := if_neg h
theorem upd_iI (F : Nat → Int) (j : Nat) (x : Int) : upd (fun k => iI (F k)) j (iI x) = fun k => iI (up F j x k) := by
  funext k
  show (if k = j then iI x else iI (F k)) = iI (if k = j then x else F k)
  split <;> rfl
theorem updL_lI (F : Nat → Int) (j : Nat) (x : Int) : vp_updL (fun k => lI (F k)) j (lI x) = fun k => lI (up F j x k) := by
  funext k
  show (if k = j then lI x else lI (F k)) = lI (if k = j then x else F k)
  split <;> rfl
/-- products within bounds -/
theorem mulB {a b A B : Int} (h1 : 0 ≤ a) (h2 : a ≤ A) (h3 : 0 ≤ b) (h4 : b ≤ B) : 0 ≤ a * b ∧ a * b ≤ A * B :=
  ⟨Int.mul_nonneg h1 h3, Int.mul_le_mul h2 h4 h3 (by omega)⟩
theorem mulS {a b A B : Int} (h1 : -A ≤ a) (h2 : a ≤ A) (h3 : 0 ≤ b) (h4 : b ≤ B) : -(A * B) ≤ a * b ∧ a * b ≤ A * B := by
  have hA : 0 ≤ A := by omega
  have hB : 0 ≤ B := by omega
  rcases Int.le_total 0 a with h | h
  · have := mulB h h2 h3 h4
    have h5 : 0 ≤ A * B := Int.mul_nonneg hA hB
    omega
  · have := mulB (a := -a) (A := A) (by omega) (by omega) h3 h4
    rw [Int.neg_mul] at this
    have h5 : 0 ≤ A * B := Int.mul_nonneg hA hB
    omega
