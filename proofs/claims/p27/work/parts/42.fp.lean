/-! the ratio of two whole numbers, of which the first is not the greater, lies between 0 and 1 -/
theorem fp_i2d {x : Int} (h0 : 0 ≤ x) (h1 : x < 2147483648) : ∃ (c : Nat) (q : Int), FP.Core.decode FP.Core.b64 (FP.i2d (iI x)).toNat = .fin false c q ∧ c * 2 ^ q.toNat = x.toNat * 2 ^ (-q).toNat := by
  have e1 := FP.Core.val64_i2d (iI x)
  rw [iI_toInt ⟨by omega, h1⟩] at e1
  have e2 : FP.Core.ofInt x = .fin false x.toNat 0 := by
    show FP.Core.Datum.fin (decide (x < 0)) x.natAbs 0 = _
    rw [decide_eq_false (by omega), show x.natAbs = x.toNat by omega]
  rw [e2] at e1
  obtain ⟨c, q, hf, hv⟩ := FP.Core.natFit FP.Core.good_b64 FP.Core.wide_b64 false (n := x.toNat) (by show x.toNat ≤ 2 ^ 53; omega)
  have e3 : FP.Core.round FP.Core.b64 (.fin false x.toNat 0) = .fin false c q := FP.Core.roundRatio_exact FP.Core.good_b64 (by decide) hf hv
  refine ⟨c, q, e1.trans e3, ?_⟩
  rw [show (q - 0).toNat = q.toNat by omega, show (0 - q).toNat = (-q).toNat by omega, Nat.mul_one] at hv
  exact hv.symm
theorem fp_cross {c d C A : Nat} {q r : Int} (h1 : c * 2 ^ q.toNat = C * 2 ^ (-q).toNat) (h2 : d * 2 ^ r.toNat = A * 2 ^ (-r).toNat) : c * A * 2 ^ ((q - r) - 0).toNat = C * d * 2 ^ (0 - (q - r)).toNat := by
  have e : q.toNat + (-r).toNat + (0 - (q - r)).toNat = (-q).toNat + r.toNat + ((q - r) - 0).toNat := by omega
  refine Nat.eq_of_mul_eq_mul_right (Nat.two_pow_pos (q.toNat + (-r).toNat + (0 - (q - r)).toNat)) ?_
  calc c * A * 2 ^ ((q - r) - 0).toNat * 2 ^ (q.toNat + (-r).toNat + (0 - (q - r)).toNat)
      = (c * 2 ^ q.toNat) * (A * 2 ^ (-r).toNat) * (2 ^ ((q - r) - 0).toNat * 2 ^ (0 - (q - r)).toNat) := by simp only [Nat.pow_add]; ac_rfl
    _ = (C * 2 ^ (-q).toNat) * (d * 2 ^ r.toNat) * (2 ^ ((q - r) - 0).toNat * 2 ^ (0 - (q - r)).toNat) := by rw [h1, h2]
    _ = C * d * 2 ^ (0 - (q - r)).toNat * 2 ^ ((-q).toNat + r.toNat + ((q - r) - 0).toNat) := by simp only [Nat.pow_add]; ac_rfl
    _ = C * d * 2 ^ (0 - (q - r)).toNat * 2 ^ (q.toNat + (-r).toNat + (0 - (q - r)).toNat) := by rw [e]
/-- a ratio of at most 1, rounded -/
theorem fp_round {C A : Nat} (hA : 0 < A) (hC : C ≤ A) : ∃ (c : Nat) (q : Int), FP.Core.roundRatio FP.Core.b64 false C A 0 = .fin false c q ∧ (c = 0 ∨ (q ≤ -52 ∧ c ≤ 2 ^ (-q).toNat)) := by
  by_cases h0 : C = 0
  · exact ⟨0, FP.Core.b64.qmin, by unfold FP.Core.roundRatio; rw [if_pos h0], Or.inl rfl⟩
  have hC0 : 0 < C := by omega
  have l1 := (FP.Core.leading_spec hC0 hA).1
  have l2 : FP.Core.Below C A 1 := by
    show C * 2 ^ 0 < A * 2 ^ 1
    omega
  have l3 := FP.Core.lt_of_below l1 l2
  have hm : FP.Core.b64.qmin = -1074 := by decide
  have hx : FP.Core.b64.qmax = 971 := by decide
  have hp : (FP.Core.b64.p : Int) = 53 := rfl
  have q1 : FP.Core.quantum FP.Core.b64 C A 0 ≤ -52 := by
    unfold FP.Core.quantum
    omega
  have q2 := FP.Core.nearest_units_le (f := FP.Core.b64) hC0 hA 0
  have q3 := FP.Core.quantum_ge FP.Core.b64 C A 0
  have e : FP.Core.roundRatio FP.Core.b64 false C A 0 = FP.Core.settle FP.Core.b64 false (FP.Core.nearest (FP.Core.unitsNum C 0 (FP.Core.quantum FP.Core.b64 C A 0)) (FP.Core.unitsDen A 0 (FP.Core.quantum FP.Core.b64 C A 0))) (FP.Core.quantum FP.Core.b64 C A 0) := by
    unfold FP.Core.roundRatio
    rw [if_neg h0]
    rfl
  generalize FP.Core.quantum FP.Core.b64 C A 0 = q at q1 q2 q3 e
  have n1 : FP.Core.nearest (FP.Core.unitsNum C 0 q) (FP.Core.unitsDen A 0 q) ≤ 2 ^ (-q).toNat := by
    refine FP.Core.nearest_le (FP.Core.unitsDen_pos hA ..) ?_
    unfold FP.Core.unitsNum FP.Core.unitsDen
    rw [show (0 - q).toNat = (-q).toNat by omega, show (q - 0).toNat = 0 by omega, Nat.pow_zero, Nat.mul_one, Nat.mul_comm]
    exact Nat.mul_le_mul_left _ hC
  generalize FP.Core.nearest (FP.Core.unitsNum C 0 q) (FP.Core.unitsDen A 0 q) = m at q2 e n1
  rw [e]
  unfold FP.Core.settle FP.Core.bound
  by_cases hlt : m < 2 ^ FP.Core.b64.p
  · rw [if_pos hlt, if_pos (by omega)]
    exact ⟨m, q, rfl, Or.inr ⟨q1, n1⟩⟩
  · rw [if_neg hlt, if_pos (by omega)]
    have m1 : m = 2 ^ 53 := Nat.le_antisymm q2 (Nat.le_of_not_lt hlt)
    rw [m1] at n1
    have h53 : 53 ≤ (-q).toNat := (Nat.pow_le_pow_iff_right (by decide : 1 < 2)).mp n1
    refine ⟨FP.Core.b64.tails, q + 1, rfl, Or.inr ⟨by omega, ?_⟩⟩
    show 2 ^ 52 ≤ 2 ^ (-(q + 1)).toNat
    exact Nat.pow_le_pow_right (by decide) (by omega)
theorem fp_div {c a : Int} (h0 : 0 ≤ c) (h1 : c ≤ a) (h2 : 0 < a) (h3 : a < 2147483648) : ∃ (n : Nat) (q : Int), FP.Core.decode FP.Core.b64 (FP.ddiv (FP.i2d (iI c)) (FP.i2d (iI a))).toNat = .fin false n q ∧ (n = 0 ∨ (q ≤ -52 ∧ n ≤ 2 ^ (-q).toNat)) := by
  obtain ⟨c1, q1, d1, e1⟩ := fp_i2d h0 (by omega)
  obtain ⟨c2, q2, d2, e2⟩ := fp_i2d (x := a) (by omega) h3
  have hc2 : c2 ≠ 0 := fun h => by
    rw [h, Nat.zero_mul] at e2
    have := Nat.mul_pos (show 0 < a.toNat by omega) (Nat.two_pow_pos (-q2).toNat)
    omega
  have v := FP.Core.val64_ddiv (FP.i2d (iI c)) (FP.i2d (iI a))
  have v1 : FP.Core.val64 (FP.i2d (iI c)) = .fin false c1 q1 := d1
  have v2 : FP.Core.val64 (FP.i2d (iI a)) = .fin false c2 q2 := d2
  rw [v1, v2] at v
  have v3 : FP.Core.quotient FP.Core.b64 (.fin false c1 q1) (.fin false c2 q2) = FP.Core.roundRatio FP.Core.b64 false c1 c2 (q1 - q2) := by
    show (if c2 = 0 then _ else _) = _
    rw [if_neg hc2]
    rfl
  have v4 : FP.Core.roundRatio FP.Core.b64 false c1 c2 (q1 - q2) = FP.Core.roundRatio FP.Core.b64 false c.toNat a.toNat 0 :=
    FP.Core.roundRatio_congr (by omega) (by omega) (fp_cross e1 e2)
  obtain ⟨n, q, r1, r2⟩ := fp_round (C := c.toNat) (A := a.toNat) (by omega) (by omega)
  exact ⟨n, q, v.trans (v3.trans (v4.trans r1)), r2⟩
theorem fp_order {n : Nat} {q : Int} (h : n = 0 ∨ (q ≤ -52 ∧ n ≤ 2 ^ (-q).toNat)) : FP.Core.order (.fin false n q) (.fin false (2 ^ 52) (-52)) ≠ some .gt := by
  intro he
  have he : some (compare (((n * 2 ^ (q - min q (-52)).toNat : Nat)) : Int) (((2 ^ 52 * 2 ^ (-52 - min q (-52)).toNat : Nat)) : Int)) = some .gt := he
  have h2 : n * 2 ^ (q - min q (-52)).toNat ≤ 2 ^ 52 * 2 ^ (-52 - min q (-52)).toNat := by
    rcases h with rfl | ⟨h1, h3⟩
    · rw [Nat.zero_mul]; exact Nat.zero_le _
    · rw [show min q (-52) = q by omega, show (q - q).toNat = 0 by omega, Nat.pow_zero, Nat.mul_one, ← Nat.pow_add]
      refine Nat.le_trans h3 (Nat.pow_le_pow_right (by decide) (by omega))
  have h3 := Option.some.inj he
  rw [FP.Core.compare_ite] at h3
  by_cases h4 : (((n * 2 ^ (q - min q (-52)).toNat : Nat)) : Int) < (((2 ^ 52 * 2 ^ (-52 - min q (-52)).toNat : Nat)) : Int)
  · rw [if_pos h4] at h3; cases h3
  · rw [if_neg h4, if_pos (by omega)] at h3; cases h3
theorem fp_order0 {n : Nat} {q r : Int} : FP.Core.order (.fin false n q) (.fin false 0 r) ≠ some .lt := by
  intro he
  have he : some (compare (((n * 2 ^ (q - min q r).toNat : Nat)) : Int) (((0 * 2 ^ (r - min q r).toNat : Nat)) : Int)) = some .lt := he
  have h3 := Option.some.inj he
  rw [FP.Core.compare_ite, Nat.zero_mul] at h3
  by_cases h4 : (((n * 2 ^ (q - min q r).toNat : Nat)) : Int) < ((0 : Nat) : Int)
  · exact absurd h4 (by omega)
  · rw [if_neg h4] at h3
    split at h3 <;> cases h3
