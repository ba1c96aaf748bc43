/-! the rounds of SHARES -/
def mS (sh : Nat → Int) (S : sS) : Nat := if 0 < S.1 then min S.1.toNat (cB (bS sh S.2.1) 6) + 1 + cB (bZ sh S.2.1) 6 else 0
abbrev fS (sh : Nat → Int) (S : sS) : Nat → Int := fun m => S.1 * sh m / ssumN sh S.2.1 6
theorem fS_nn {sh : Nat → Int} (hs : ∀ k, k < 6 → 0 ≤ sh k ∧ sh k ≤ 100) {S : sS} (hS : sOK S) : ∀ k, k < 6 → 0 ≤ fS sh S k :=
  fun k hk => divN (Int.mul_nonneg hS.1.1 (hs k hk).1) (ssumN_b hs 6 (by omega)).1
theorem fS_sum {sh : Nat → Int} {S : sS} (h0 : 0 < ssumN sh S.2.1 6) : ∀ n : Nat, ssumN sh S.2.1 6 * ssumN (fS sh S) S.2.1 n ≤ S.1 * ssumN sh S.2.1 n
  | 0 => by show ssumN sh S.2.1 6 * 0 ≤ S.1 * 0; simp
  | n + 1 => by
    have ih := fS_sum h0 n
    have h1 : ssumN sh S.2.1 6 * (S.1 * sh n / ssumN sh S.2.1 6) ≤ S.1 * sh n := Int.mul_ediv_self_le (by omega)
    show ssumN sh S.2.1 6 * (if 0 < S.2.1 n then ssumN (fS sh S) S.2.1 n + fS sh S n else ssumN (fS sh S) S.2.1 n) ≤ S.1 * (if 0 < S.2.1 n then ssumN sh S.2.1 n + sh n else ssumN sh S.2.1 n)
    split
    · rw [Int.mul_add, Int.mul_add]
      show _ + ssumN sh S.2.1 6 * (S.1 * sh n / ssumN sh S.2.1 6) ≤ _
      omega
    · exact ih
theorem fS_T {sh : Nat → Int} {S : sS} (h0 : 0 < ssumN sh S.2.1 6) : ssumN (fS sh S) S.2.1 6 ≤ S.1 := by
  have h := fS_sum h0 6
  rw [Int.mul_comm S.1] at h
  exact Int.le_of_mul_le_mul_left h h0
/-- what the divisions cut off is less than one for each that shares -/
theorem fS_rest {sh : Nat → Int} (hs : ∀ k, k < 6 → 0 ≤ sh k ∧ sh k ≤ 100) {S : sS} (h0 : 0 < ssumN sh S.2.1 6) : ∀ n : Nat, n ≤ 6 → S.1 * ssumN sh S.2.1 n - ssumN sh S.2.1 6 * ssumN (fS sh S) S.2.1 n ≤ (ssumN sh S.2.1 6 - 1) * (cB (bS sh S.2.1) n : Int)
  | 0, _ => by show S.1 * 0 - ssumN sh S.2.1 6 * 0 ≤ _ * ((0 : Nat) : Int); simp
  | n + 1, hn => by
    have ih := fS_rest hs h0 n (by omega)
    have h1 : S.1 * sh n < ssumN sh S.2.1 6 * (S.1 * sh n / ssumN sh S.2.1 6) + ssumN sh S.2.1 6 := Int.lt_mul_ediv_self_add h0
    have h2 := hs n (by omega)
    show S.1 * (if 0 < S.2.1 n then ssumN sh S.2.1 n + sh n else ssumN sh S.2.1 n) - ssumN sh S.2.1 6 * (if 0 < S.2.1 n then ssumN (fS sh S) S.2.1 n + fS sh S n else ssumN (fS sh S) S.2.1 n) ≤ (ssumN sh S.2.1 6 - 1) * ((if bS sh S.2.1 n then cB (bS sh S.2.1) n + 1 else cB (bS sh S.2.1) n : Nat) : Int)
    by_cases hr : 0 < S.2.1 n
    · rw [if_pos hr, if_pos hr]
      by_cases hp : 0 < sh n
      · rw [if_pos (show bS sh S.2.1 n = true by simp [bS, hr, hp]), Int.natCast_succ, Int.mul_add, Int.mul_add, Int.mul_add, Int.mul_one]
        show _ - (_ + ssumN sh S.2.1 6 * (S.1 * sh n / ssumN sh S.2.1 6)) ≤ _
        omega
      · rw [if_neg (show ¬ bS sh S.2.1 n = true by simp [bS, hp])]
        have h3 : sh n = 0 := by omega
        have h4 : fS sh S n = 0 := by show S.1 * sh n / _ = 0; rw [h3, Int.mul_zero, Int.zero_ediv]
        rw [h3, h4, Int.add_zero, Int.add_zero]
        exact ih
    · rw [if_neg hr, if_neg hr, if_neg (show ¬ bS sh S.2.1 n = true by simp [bS, hr])]
      exact ih
theorem oneS_left {sh : Nat → Int} {S : sS} (hS : sOK S) : ∀ j : Nat, j ≤ 6 → (giveOne sh j S).1 = max (S.1 - (cB (bS sh S.2.1) j : Int)) 0
  | 0, _ => by
    have := hS.1
    show S.1 = max (S.1 - ((0 : Nat) : Int)) 0
    omega
  | j + 1, h => by
    have ih := oneS_left (sh := sh) hS j (by omega)
    have h2 : (giveOne sh j S).2.1 j = S.2.1 j := giveOne_room j j (Nat.le_refl _)
    have h3 := hS.2 j (by omega)
    show (if 0 < sh j then giveS j 1 (giveOne sh j S) else giveOne sh j S).1 = max (S.1 - ((if bS sh S.2.1 j then cB (bS sh S.2.1) j + 1 else cB (bS sh S.2.1) j : Nat) : Int)) 0
    by_cases hp : 0 < sh j
    · rw [if_pos hp]
      show (giveOne sh j S).1 - min 1 (min ((giveOne sh j S).2.1 j) (giveOne sh j S).1) = _
      rw [h2, ih]
      by_cases hb : 0 < S.2.1 j
      · rw [if_pos (show bS sh S.2.1 j = true by simp [bS, hb, hp])]; omega
      · rw [if_neg (show ¬ bS sh S.2.1 j = true by simp [bS, hb])]; omega
    · rw [if_neg hp, if_neg (show ¬ bS sh S.2.1 j = true by simp [bS, hp])]
      exact ih
theorem giveOne_mono {sh : Nat → Int} {S : sS} (hS : sOK S) : ∀ j : Nat, j ≤ 6 → ∀ k, k < 6 → (giveOne sh j S).2.1 k ≤ S.2.1 k
  | 0, _, _, _ => Int.le_refl _
  | j + 1, h, k, hk => by
    have ih := giveOne_mono (sh := sh) hS j (by omega) k hk
    have h1 := giveOne_ok (sh := sh) hS j (by omega)
    have h2 := h1.2 j (by omega)
    have h3 := h1.1
    show (if 0 < sh j then giveS j 1 (giveOne sh j S) else giveOne sh j S).2.1 k ≤ S.2.1 k
    split
    · show up (giveOne sh j S).2.1 j ((giveOne sh j S).2.1 j - min 1 (min ((giveOne sh j S).2.1 j) (giveOne sh j S).1)) k ≤ S.2.1 k
      by_cases hkj : k = j
      · subst hkj; rw [up_s]; omega
      · rw [up_n hkj]; exact ih
    · exact ih
/-- nobody who shares has room: the shares' sum is 0 -/
theorem ssum_cB {sh R : Nat → Int} (hs : ∀ k, k < 6 → 0 ≤ sh k ∧ sh k ≤ 100) : ∀ n : Nat, n ≤ 6 → cB (bS sh R) n = 0 → ssumN sh R n = 0
  | 0, _, _ => rfl
  | n + 1, hn, h => by
    have h0 : (if bS sh R n then cB (bS sh R) n + 1 else cB (bS sh R) n) = 0 := h
    have hb : ¬ bS sh R n = true := fun hb => by rw [if_pos hb] at h0; omega
    rw [if_neg hb] at h0
    have ih := ssum_cB hs n (by omega) h0
    have h2 := hs n (by omega)
    show (if 0 < R n then ssumN sh R n + sh n else ssumN sh R n) = 0
    split
    · rename_i hr
      have : ¬ 0 < sh n := fun hp => hb (by simp [bS, hr, hp])
      omega
    · exact ih
theorem mS_step {sh : Nat → Int} (hs : ∀ k, k < 6 → 0 ≤ sh k ∧ sh k ≤ 100) {S : sS} (hS : sOK S) (h0 : 0 < S.1) (hp : 0 < ssumN sh S.2.1 6) : mS sh (shStep sh S) + 1 ≤ mS sh S := by
  have hok := shStep_ok hs hS
  have hf := fS_nn hs hS
  have hT := fS_T (S := S) hp
  have hc : 0 < cB (bS sh S.2.1) 6 := by
    rcases Nat.eq_zero_or_pos (cB (bS sh S.2.1) 6) with h | h
    · have := ssum_cB hs 6 (by omega) h; omega
    · exact h
  have hS1 : mS sh S = min S.1.toNat (cB (bS sh S.2.1) 6) + 1 + cB (bZ sh S.2.1) 6 := if_pos h0
  by_cases hsame : (giveTo (fS sh S) 6 S).1 = S.1
  · -- nothing given: one each, and nothing is left
    have hg := give_same hS hf 6 (by omega) hsame
    have e1 : shStep sh S = giveOne sh 6 S := by
      show (if (giveTo (fS sh S) 6 S).1 = S.1 then giveOne sh 6 (giveTo (fS sh S) 6 S) else giveTo (fS sh S) 6 S) = _
      rw [if_pos hsame, hg.1]
    have hleft : S.1 < (cB (bS sh S.2.1) 6 : Int) := by
      rcases give_two hS hf hT 6 (by omega) with h | ⟨k, k1, k2, k3, k4⟩
      · have hz : ssumN (fS sh S) S.2.1 6 = 0 := by omega
        have hr := fS_rest hs hp 6 (by omega)
        rw [hz, Int.mul_zero, Int.sub_zero] at hr
        rcases Int.lt_or_le S.1 (cB (bS sh S.2.1) 6 : Int) with hl | hl
        · exact hl
        · exfalso
          have h1 : (cB (bS sh S.2.1) 6 : Int) * ssumN sh S.2.1 6 ≤ S.1 * ssumN sh S.2.1 6 := Int.mul_le_mul_of_nonneg_right hl (by omega)
          rw [Int.sub_mul, Int.one_mul, Int.mul_comm (ssumN sh S.2.1 6)] at hr
          omega
      · exfalso
        rw [hg.1] at k4; omega
    have h1 := oneS_left (sh := sh) hS 6 (by omega)
    rw [← e1] at h1
    have h2 : (shStep sh S).1 = 0 := by omega
    have h3 : mS sh (shStep sh S) = 0 := if_neg (by omega)
    omega
  · have e1 : shStep sh S = giveTo (fS sh S) 6 S := by
      show (if (giveTo (fS sh S) 6 S).1 = S.1 then giveOne sh 6 (giveTo (fS sh S) 6 S) else giveTo (fS sh S) 6 S) = _
      rw [if_neg hsame]
    have hmono := giveTo_mono hS hf 6 (by omega)
    rw [← e1] at hmono hsame
    have hl := hmono.1
    have hZ : cB (bZ sh (shStep sh S).2.1) 6 ≤ cB (bZ sh S.2.1) 6 := cB_le 6 (fun k hk hb => by
      have h1 := hmono.2 k hk
      have h2 : 0 < (shStep sh S).2.1 k ∧ ¬ 0 < sh k := of_decide_eq_true hb
      exact decide_eq_true ⟨by omega, h2.2⟩)
    have hSle : cB (bS sh (shStep sh S).2.1) 6 ≤ cB (bS sh S.2.1) 6 := cB_le 6 (fun k hk hb => by
      have h1 := hmono.2 k hk
      have h2 : 0 < (shStep sh S).2.1 k ∧ 0 < sh k := of_decide_eq_true hb
      exact decide_eq_true ⟨by omega, h2.2⟩)
    have hkey : (shStep sh S).1.toNat + 1 ≤ cB (bS sh S.2.1) 6 ∨ cB (bS sh (shStep sh S).2.1) 6 + 1 ≤ cB (bS sh S.2.1) 6 := by
      rcases give_two hS hf hT 6 (by omega) with h | ⟨k, k1, k2, k3, k4⟩
      · left
        rw [← e1] at h
        have hr := fS_rest hs hp 6 (by omega)
        have h1 : ssumN sh S.2.1 6 * (shStep sh S).1 = S.1 * ssumN sh S.2.1 6 - ssumN sh S.2.1 6 * ssumN (fS sh S) S.2.1 6 := by
          rw [h, Int.mul_sub, Int.mul_comm S.1]
        have h2 : ssumN sh S.2.1 6 * (shStep sh S).1 < ssumN sh S.2.1 6 * (cB (bS sh S.2.1) 6 : Int) := by
          rw [Int.sub_mul, Int.one_mul] at hr
          omega
        have h3 := Int.lt_of_mul_lt_mul_left h2 (by omega)
        have h4 := hok.1
        omega
      · right
        rw [← e1] at k4
        have k5 : 0 < sh k := by
          have h2 := hs k k1
          rcases Int.lt_or_le 0 (sh k) with h | h
          · exact h
          · exfalso
            have h3 : sh k = 0 := by omega
            have h4 : fS sh S k = 0 := by show S.1 * sh k / _ = 0; rw [h3, Int.mul_zero, Int.zero_ediv]
            omega
        exact cB_lt 6 (fun j hj hb => by
          have h1 := hmono.2 j hj
          have h2 : 0 < (shStep sh S).2.1 j ∧ 0 < sh j := of_decide_eq_true hb
          exact decide_eq_true ⟨by omega, h2.2⟩) k k1 (decide_eq_true ⟨k2, k5⟩) (decide_eq_false (by omega))
    have h4 := hok.1
    by_cases hz : 0 < (shStep sh S).1
    · have h3 : mS sh (shStep sh S) = min (shStep sh S).1.toNat (cB (bS sh (shStep sh S).2.1) 6) + 1 + cB (bZ sh (shStep sh S).2.1) 6 := if_pos hz
      omega
    · have h3 : mS sh (shStep sh S) = 0 := if_neg hz
      omega
theorem mS_eq {sh : Nat → Int} (hs : ∀ k, k < 6 → 0 ≤ sh k ∧ sh k ≤ 100) {S : sS} (h0 : 0 < S.1) : mE S + 1 ≤ mS sh S ∨ 0 < cB (bS sh S.2.1) 6 := by
  have hS1 : mS sh S = min S.1.toNat (cB (bS sh S.2.1) 6) + 1 + cB (bZ sh S.2.1) 6 := if_pos h0
  have h2 := cB_split sh S.2.1 6
  unfold mE
  omega
theorem cB_ssum {sh R : Nat → Int} (hs : ∀ k, k < 6 → 0 ≤ sh k ∧ sh k ≤ 100) (h : ssumN sh R 6 = 0) : cB (bS sh R) 6 = 0 := by
  rcases Nat.eq_zero_or_pos (cB (bS sh R) 6) with h1 | h1
  · exact h1
  · exfalso
    have h2 : cB (bS sh R) 6 ≤ cB (fun _ => false) 6 := cB_le 6 (fun k hk hb => by
      have h3 : 0 < R k ∧ 0 < sh k := of_decide_eq_true hb
      have h4 := ssumN_0 hs 6 (by omega) h k hk h3.1
      omega)
    have h5 : cB (fun _ => false) 6 = 0 := rfl
    omega
/-- with no shares at work: one array, then the rounds of EQUAL -/
theorem mS_E {sh : Nat → Int} (hs : ∀ k, k < 6 → 0 ≤ sh k ∧ sh k ≤ 100) {S : sS} (h0 : 0 < S.1) (h : ssumN sh S.2.1 6 = 0) : mE S + 1 ≤ mS sh S := by
  have h1 := cB_ssum hs h
  rcases mS_eq hs h0 with h2 | h2
  · exact h2
  · omega
theorem mS_b (sh : Nat → Int) (S : sS) : mS sh S ≤ cB (bR S.2.1) 6 + 1 := by
  have h2 := cB_split sh S.2.1 6
  unfold mS
  split <;> omega
theorem shStep_en {sh : Nat → Int} (hs : ∀ k, k < 6 → 0 ≤ sh k ∧ sh k ≤ 100) {S : sS} (hS : sOK S) (h : enR S) : enR (shStep sh S) := shStep_cl giveS_en hs h hS
theorem shS_done {sh : Nat → Int} (hs : ∀ k, k < 6 → 0 ≤ sh k ∧ sh k ≤ 100) {S : sS} (hS : sOK S) {r : Nat} (hr : r ≤ 1000) (h : (iter (shStep sh) r S).1 = 0 ∨ ssumN sh (iter (shStep sh) r S).2.1 6 = 0) : shS sh S = iter (shStep sh) r S :=
  iter_end (by rw [NR_eq]; exact hr) (shStep_fix hs (iter_ok (fun _ h => shStep_ok hs h) hS r) h)
/-! ROOM: the divisions cut off less than one for each that has room left -/
abbrev fR (S : sS) : Nat → Int := fun m => S.1 * S.2.1 m / sumN S.2.1 6
theorem fR_nn {S : sS} (hS : sOK S) : ∀ k, k < 6 → 0 ≤ fR S k := fun k hk => divN (Int.mul_nonneg hS.1.1 (hS.2 k hk).1) (sumN_b (F := S.2.1) (B := 5000) 6 hS.2).1
theorem fR_le {S : sS} (hS : sOK S) (hen : enR S) (h0 : 0 < sumN S.2.1 6) {k : Nat} (hk : k < 6) : fR S k ≤ S.2.1 k := by
  refine Int.ediv_le_of_le_mul h0 ?_
  rw [Int.mul_comm]
  exact Int.mul_le_mul_of_nonneg_left hen (hS.2 k hk).1
theorem fR_sum {S : sS} (hS : sOK S) (h0 : 0 < sumN S.2.1 6) : ∀ n : Nat, n ≤ 6 → sumN S.2.1 6 * ssumN (fR S) S.2.1 n ≤ S.1 * sumN S.2.1 n
  | 0, _ => by show sumN S.2.1 6 * 0 ≤ S.1 * 0; simp
  | n + 1, hn => by
    have ih := fR_sum hS h0 n (by omega)
    have h1 : sumN S.2.1 6 * (S.1 * S.2.1 n / sumN S.2.1 6) ≤ S.1 * S.2.1 n := Int.mul_ediv_self_le (by omega)
    have h2 := Int.mul_nonneg hS.1.1 (hS.2 n (by omega)).1
    show sumN S.2.1 6 * (if 0 < S.2.1 n then ssumN (fR S) S.2.1 n + fR S n else ssumN (fR S) S.2.1 n) ≤ S.1 * (sumN S.2.1 n + S.2.1 n)
    rw [Int.mul_add S.1]
    split
    · rw [Int.mul_add]
      show _ + sumN S.2.1 6 * (S.1 * S.2.1 n / sumN S.2.1 6) ≤ _
      omega
    · omega
theorem fR_T {S : sS} (hS : sOK S) (h0 : 0 < sumN S.2.1 6) : ssumN (fR S) S.2.1 6 ≤ S.1 := by
  have h := fR_sum hS h0 6 (by omega)
  rw [Int.mul_comm S.1] at h
  exact Int.le_of_mul_le_mul_left h h0
/-- ROOM's first giving: who has got what, what is left -/
theorem fR_at {S : sS} (hS : sOK S) (hen : enR S) (h0 : 0 < sumN S.2.1 6) : ∀ j : Nat, j ≤ 6 → (giveTo (fR S) j S).1 = S.1 - sumN (fR S) j ∧ ∀ k, k < 6 → (giveTo (fR S) j S).2.1 k = if k < j then S.2.1 k - fR S k else S.2.1 k
  | 0, _ => ⟨by show S.1 = S.1 - 0; omega, fun k _ => by rw [if_neg (by omega)]; rfl⟩
  | j + 1, h => by
    obtain ⟨i1, i2⟩ := fR_at hS hen h0 j (by omega)
    have h1 := fR_le hS hen h0 (k := j) (by omega)
    have h2 := fR_nn hS j (by omega)
    have h3 := hS.2 j (by omega)
    have hl : fR S j ≤ (giveTo (fR S) j S).1 := by
      by_cases hr : 0 < S.2.1 j
      · exact give_lim hS (fR_nn hS) (fR_T hS h0) (by omega) hr
      · have := (giveTo_ok (f := fR S) hS j (by omega) (fun k hk => fR_nn hS k (by omega))).1
        omega
    have h4 : (giveTo (fR S) j S).2.1 j = S.2.1 j := giveTo_room j j (Nat.le_refl _)
    have e : min (fR S j) (min ((giveTo (fR S) j S).2.1 j) (giveTo (fR S) j S).1) = fR S j := by rw [h4]; omega
    refine ⟨?_, fun k hk => ?_⟩
    · show (giveTo (fR S) j S).1 - min (fR S j) (min ((giveTo (fR S) j S).2.1 j) (giveTo (fR S) j S).1) = S.1 - (sumN (fR S) j + fR S j)
      rw [e]; omega
    · show up (giveTo (fR S) j S).2.1 j ((giveTo (fR S) j S).2.1 j - min (fR S j) (min ((giveTo (fR S) j S).2.1 j) (giveTo (fR S) j S).1)) k = _
      rw [e, h4]
      by_cases hkj : k = j
      · subst hkj; rw [up_s, if_pos (by omega)]
      · rw [up_n hkj, i2 k hk]
        by_cases hk2 : k < j
        · rw [if_pos hk2, if_pos (by omega)]
        · rw [if_neg hk2, if_neg (by omega)]
theorem fR_rest {S : sS} (hS : sOK S) (hen : enR S) (h0 : 0 < sumN S.2.1 6) : ∀ n : Nat, n ≤ 6 → S.1 * sumN S.2.1 n - sumN S.2.1 6 * sumN (fR S) n ≤ sumN S.2.1 6 * (cB (bR (giveTo (fR S) 6 S).2.1) n : Int)
  | 0, _ => by show S.1 * 0 - sumN S.2.1 6 * 0 ≤ _ * ((0 : Nat) : Int); simp
  | n + 1, hn => by
    have ih := fR_rest hS hen h0 n (by omega)
    have h1 : S.1 * S.2.1 n < sumN S.2.1 6 * (S.1 * S.2.1 n / sumN S.2.1 6) + sumN S.2.1 6 := Int.lt_mul_ediv_self_add h0
    have h2 := fR_le hS hen h0 (k := n) (by omega)
    have h3 : (giveTo (fR S) 6 S).2.1 n = S.2.1 n - fR S n := by rw [(fR_at hS hen h0 6 (by omega)).2 n (by omega), if_pos (by omega)]
    show S.1 * (sumN S.2.1 n + S.2.1 n) - sumN S.2.1 6 * (sumN (fR S) n + fR S n) ≤ sumN S.2.1 6 * ((if bR (giveTo (fR S) 6 S).2.1 n then cB (bR (giveTo (fR S) 6 S).2.1) n + 1 else cB (bR (giveTo (fR S) 6 S).2.1) n : Nat) : Int)
    rw [Int.mul_add, Int.mul_add]
    by_cases hb : fR S n < S.2.1 n
    · rw [if_pos (show bR (giveTo (fR S) 6 S).2.1 n = true by rw [bR, h3]; exact decide_eq_true (by omega)), Int.natCast_succ, Int.mul_add, Int.mul_one]
      show _ - (_ + sumN S.2.1 6 * (S.1 * S.2.1 n / sumN S.2.1 6)) ≤ _
      omega
    · rw [if_neg (show ¬ bR (giveTo (fR S) 6 S).2.1 n = true by rw [bR, h3]; simp; omega)]
      have e : fR S n = S.2.1 n := by omega
      have h5 : S.1 * S.2.1 n ≤ sumN S.2.1 6 * S.2.1 n := Int.mul_le_mul_of_nonneg_right hen (hS.2 n (by omega)).1
      rw [e]; omega
theorem fR_cnt {S : sS} (hS : sOK S) (hen : enR S) (h0 : 0 < sumN S.2.1 6) : (giveTo (fR S) 6 S).1 ≤ (cB (bR (giveTo (fR S) 6 S).2.1) 6 : Int) := by
  have h1 := fR_rest hS hen h0 6 (by omega)
  have h2 := (fR_at hS hen h0 6 (by omega)).1
  rw [h2]
  refine Int.le_of_mul_le_mul_left (a := sumN S.2.1 6) ?_ h0
  rw [Int.mul_sub, Int.mul_comm _ S.1]
  exact h1
/-! RANK: in the order of the places -/
def rT (rk : Nat → Int) (S : sS) : Nat → sS
  | 0 => S
  | q + 1 => if rk (q % 6) = ((q / 6 : Nat) : Int) then giveS (q % 6) (rT rk S q).1 (rT rk S q) else rT rk S q
theorem rT_ok {rk : Nat → Int} {S : sS} (hS : sOK S) : ∀ q : Nat, sOK (rT rk S q)
  | 0 => hS
  | q + 1 => by
    have ih := rT_ok (rk := rk) hS q
    unfold rT
    split
    · exact giveS_ok ih (by omega) ih.1.1
    · exact ih
/-- no places in between: nothing happens -/
theorem rT_skip {rk : Nat → Int} {S : sS} {a : Nat} : ∀ d : Nat, (∀ q, a ≤ q → q < a + d → ¬ rk (q % 6) = ((q / 6 : Nat) : Int)) → rT rk S (a + d) = rT rk S a
  | 0, _ => rfl
  | d + 1, h => by
    show (if rk ((a + d) % 6) = (((a + d) / 6 : Nat) : Int) then _ else rT rk S (a + d)) = _
    rw [if_neg (h (a + d) (by omega) (by omega))]
    exact rT_skip d (fun q h1 h2 => h q h1 (by omega))
def pl (rk : Nat → Int) (k : Nat) : Int := rk k * 6 + k
theorem npTo_lt {rk : Nat → Int} {last : Int} : ∀ n : Nat, ∀ k, k < n → last < pl rk k → pl rk k < 600 → npTo rk last n ≤ pl rk k
  | 0, k, hk, _, _ => absurd hk (by omega)
  | n + 1, k, hk, h1, h2 => by
    unfold pl at h1 h2 ⊢
    by_cases hkn : k = n
    · subst hkn
      unfold npTo
      split <;> omega
    · have ih := npTo_lt n k (by omega) h1 h2
      unfold pl at ih
      unfold npTo
      split <;> omega
theorem npTo_is {rk : Nat → Int} {last : Int} : ∀ n : Nat, npTo rk last n = 600 ∨ ∃ k, k < n ∧ last < pl rk k ∧ npTo rk last n = pl rk k
  | 0 => Or.inl rfl
  | n + 1 => by
    rcases npTo_is (rk := rk) (last := last) n with h | ⟨k, k1, k2, k3⟩
    · unfold npTo
      split
      · rename_i hc; exact Or.inr ⟨n, by omega, hc.1, rfl⟩
      · exact Or.inl h
    · unfold npTo
      split
      · rename_i hc; exact Or.inr ⟨n, by omega, hc.1, rfl⟩
      · exact Or.inr ⟨k, by omega, k2, k3⟩
/-- how many have their turn still before them -/
def cP (rk : Nat → Int) (last : Int) : Nat := cB (fun k => decide (last < pl rk k)) 6
theorem rk_inv {rk : Nat → Int} (hr : ∀ k, k < 6 → 0 ≤ rk k ∧ rk k ≤ 99) {S : sS} (hS : sOK S) : ∀ i : Nat, i ≤ 6 → cP rk (iter (rkStep rk) i (-1, S)).1 + i ≤ 6 ∨ (iter (rkStep rk) i (-1, S)).1 = 600
  | 0, _ => Or.inl (cB_max (b := fun k => decide ((iter (rkStep rk) 0 (-1, S)).1 < pl rk k)) 6)
  | i + 1, h => by
    have ih := rk_inv hr hS i (by omega)
    have hb := rankS_ok hr hS i
    have e : (iter (rkStep rk) (i + 1) (-1, S)).1 = npTo rk (iter (rkStep rk) i (-1, S)).1 6 := rfl
    rw [e]
    generalize (iter (rkStep rk) i (-1, S)).1 = last at *
    rcases npTo_is (rk := rk) (last := last) 6 with h1 | ⟨k, k1, k2, k3⟩
    · exact Or.inr h1
    · left
      rw [k3]
      rcases ih with ih | ih
      · have hlt : cP rk (pl rk k) + 1 ≤ cP rk last := cB_lt 6 (fun j hj hb => by
          have h2 : pl rk k < pl rk j := of_decide_eq_true hb
          exact decide_eq_true (by omega)) k k1 (decide_eq_true k2) (decide_eq_false (by omega))
        omega
      · have h2 := hr k k1
        unfold pl at k2
        omega
theorem pl_mod {rk : Nat → Int} (hr : ∀ k, k < 6 → 0 ≤ rk k ∧ rk k ≤ 99) {k : Nat} (hk : k < 6) : (pl rk k).toNat % 6 = k ∧ (((pl rk k).toNat / 6 : Nat) : Int) = rk k ∧ (pl rk k % 6).toNat = k ∧ 0 ≤ pl rk k ∧ pl rk k < 600 := by
  have h := hr k hk
  unfold pl
  omega
theorem pl_at {rk : Nat → Int} (hr : ∀ k, k < 6 → 0 ≤ rk k ∧ rk k ≤ 99) {q : Nat} (h : rk (q % 6) = ((q / 6 : Nat) : Int)) : pl rk (q % 6) = (q : Int) := by
  unfold pl
  rw [h]; omega
/-- where everybody had his turn: he is full, or nothing is left -/
theorem rT_full {rk : Nat → Int} (hr : ∀ k, k < 6 → 0 ≤ rk k ∧ rk k ≤ 99) {S : sS} (hS : sOK S) : ∀ q : Nat, ∀ k, k < 6 → pl rk k < q → (rT rk S q).2.1 k = 0 ∨ (rT rk S q).1 = 0
  | 0, k, hk, h => by have := pl_mod hr hk; omega
  | q + 1, k, hk, h => by
    have hok := rT_ok (rk := rk) hS q
    have hp := pl_mod hr hk
    unfold rT
    split
    · rename_i hc
      have hq := pl_at hr hc
      have hrm := hok.2 (q % 6) (by omega)
      have hl := hok.1
      show up (rT rk S q).2.1 (q % 6) ((rT rk S q).2.1 (q % 6) - min (rT rk S q).1 (min ((rT rk S q).2.1 (q % 6)) (rT rk S q).1)) k = 0 ∨ (rT rk S q).1 - min (rT rk S q).1 (min ((rT rk S q).2.1 (q % 6)) (rT rk S q).1) = 0
      by_cases hkq : k = q % 6
      · subst hkq
        rw [up_s]; omega
      · rw [up_n hkq]
        have hne : pl rk k ≠ (q : Int) := fun e => by
          have h1 := hp.1
          rw [e] at h1
          exact hkq (by omega)
        rcases rT_full hr hS q k hk (by omega) with h2 | h2
        · exact Or.inl h2
        · right; omega
    · rename_i hc
      have hne : pl rk k ≠ (q : Int) := fun e => by
        have h1 := hp.1
        have h2 := hp.2.1
        rw [e] at h1 h2
        have h3 : q % 6 = k := by omega
        exact hc (by rw [h3]; omega)
      exact rT_full hr hS q k hk (by omega)
theorem rk_state {rk : Nat → Int} (hr : ∀ k, k < 6 → 0 ≤ rk k ∧ rk k ≤ 99) {S : sS} (hS : sOK S) : ∀ i : Nat, (iter (rkStep rk) i (-1, S)).2 = rT rk S ((iter (rkStep rk) i (-1, S)).1 + 1).toNat
  | 0 => rfl
  | i + 1 => by
    have ih := rk_state hr hS i
    have hb := rankS_ok hr hS i
    have e1 : (iter (rkStep rk) (i + 1) (-1, S)).1 = npTo rk (iter (rkStep rk) i (-1, S)).1 6 := rfl
    have e2 : (iter (rkStep rk) (i + 1) (-1, S)).2 = giveS (npTo rk (iter (rkStep rk) i (-1, S)).1 6 % 6).toNat (iter (rkStep rk) i (-1, S)).2.1 (iter (rkStep rk) i (-1, S)).2 := rfl
    rw [e1, e2, ih]
    have hb1 := hb.1
    generalize (iter (rkStep rk) i (-1, S)).1 = last at *
    rcases npTo_is (rk := rk) (last := last) 6 with h1 | ⟨k, k1, k2, k3⟩
    · -- nobody is left
      rw [h1]
      have hall : ∀ k, k < 6 → pl rk k ≤ last := fun k hk => by
        rcases Int.lt_or_le last (pl rk k) with h2 | h2
        · have h3 := npTo_lt 6 k hk h2 (pl_mod hr hk).2.2.2.2
          have h4 := (pl_mod hr hk).2.2.2.2
          omega
        · exact h2
      have hs : rT rk S 601 = rT rk S (last + 1).toNat := by
        have h2 := rT_skip (rk := rk) (S := S) (a := (last + 1).toNat) (601 - (last + 1).toNat) (fun q q1 q2 hc => by
          have h3 := pl_at hr hc
          have h4 := hall (q % 6) (by omega)
          omega)
        rw [show (last + 1).toNat + (601 - (last + 1).toNat) = 601 by omega] at h2
        exact h2
      rw [show ((600 : Int) + 1).toNat = 601 by decide, hs]
      refine giveS_0 ?_
      have hok := rT_ok (rk := rk) hS (last + 1).toNat
      have h0 := hall 0 (by omega)
      have hp0 := pl_mod hr (k := 0) (by omega)
      have hf := rT_full hr hS (last + 1).toNat 0 (by omega) (by omega)
      have hr0 := hok.2 0 (by omega)
      have hl0 := hok.1
      rw [show ((600 : Int) % 6).toNat = 0 by decide]
      omega
    · rw [k3]
      have hp := pl_mod hr k1
      rw [hp.2.2.1]
      have hmid : rT rk S (pl rk k).toNat = rT rk S (last + 1).toNat := by
        have h2 := rT_skip (rk := rk) (S := S) (a := (last + 1).toNat) ((pl rk k).toNat - (last + 1).toNat) (fun q q1 q2 hc => by
          have h3 := pl_at hr hc
          have h4 := npTo_lt (rk := rk) (last := last) 6 (q % 6) (by omega) (by omega) (by omega)
          omega)
        rw [show (last + 1).toNat + ((pl rk k).toNat - (last + 1).toNat) = (pl rk k).toNat by omega] at h2
        exact h2
      rw [show (pl rk k + 1).toNat = (pl rk k).toNat + 1 by omega]
      show _ = (if rk ((pl rk k).toNat % 6) = (((pl rk k).toNat / 6 : Nat) : Int) then giveS ((pl rk k).toNat % 6) (rT rk S (pl rk k).toNat).1 (rT rk S (pl rk k).toNat) else rT rk S (pl rk k).toNat)
      rw [hp.1, if_pos hp.2.1.symm, hmid]
/-- the class's six turns are the reference's hundred ranks -/
theorem rankS_rT {rk : Nat → Int} (hr : ∀ k, k < 6 → 0 ≤ rk k ∧ rk k ≤ 99) {S : sS} (hS : sOK S) : rankS rk S = rT rk S 600 := by
  show (iter (rkStep rk) 6 (-1, S)).2 = _
  rw [rk_state hr hS 6]
  have hb := rankS_ok hr hS 6
  have hb1 := hb.1
  have hi := rk_inv hr hS 6 (by omega)
  generalize (iter (rkStep rk) 6 (-1, S)).1 = last at *
  have hall : ∀ k, k < 6 → pl rk k ≤ last := fun k hk => by
    rcases hi with hi | hi
    · rcases Int.lt_or_le last (pl rk k) with h2 | h2
      · exfalso
        have h3 : cB (fun _ => false) 6 + 1 ≤ cP rk last := cB_lt (b' := fun _ => false) 6 (fun j hj hb => by cases hb) k hk (decide_eq_true h2) rfl
        omega
      · exact h2
    · have := (pl_mod hr hk).2.2.2.2
      omega
  have hsk : ∀ a b : Nat, (last + 1).toNat ≤ a → rT rk S (a + b) = rT rk S a := fun a b ha => rT_skip b (fun q q1 q2 hc => by
    have h3 := pl_at hr hc
    have h4 := hall (q % 6) (by omega)
    omega)
  rcases Nat.lt_or_ge (last + 1).toNat 600 with h | h
  · have h1 := hsk (last + 1).toNat (600 - (last + 1).toNat) (Nat.le_refl _)
    rw [show (last + 1).toNat + (600 - (last + 1).toNat) = 600 by omega] at h1
    exact h1.symm
  · -- last is 599 or 600: behind 600 there is no place
    have h1 : rT rk S (600 + ((last + 1).toNat - 600)) = rT rk S 600 := rT_skip _ (fun q q1 q2 hc => by
      have h3 := pl_at hr hc
      have h4 := (pl_mod hr (k := q % 6) (by omega)).2.2.2.2
      omega)
    rw [show 600 + ((last + 1).toNat - 600) = (last + 1).toNat by omega] at h1
    exact h1
