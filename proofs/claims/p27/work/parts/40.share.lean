/-! the reference's rounds of sharing: how much is left, how many rounds -/
theorem zG.drop {D : va_G} {A : Nat → Prop} {H0 H : Heap} {locs : List Loc} {ws ws' : va_W} (G : zG D A H0 ws H locs) (is : List Nat) (hn : va_nd is = true) (hs : is.map (fun i => ws[i]?) = ws'.map some) : zG D A H0 ws' H locs := by
  refine ⟨G.1.sub is ?_, G.2.1.sub is hn hs, G.2.2.1, G.2.2.2⟩
  have h := congrArg (List.filterMap id) hs
  rw [List.filterMap_map, List.filterMap_map] at h
  exact h.trans List.filterMap_some
theorem giveTo_hi {f : Nat → Int} {S : sS} (hS : sOK S) (hf : ∀ k, k < 6 → 0 ≤ f k) {n : Nat} (h0 : ∀ k, n ≤ k → k < 6 → S.2.1 k = 0) : ∀ d : Nat, n + d ≤ 6 → giveTo f (n + d) S = giveTo f n S
  | 0, _ => rfl
  | d + 1, h => by
    have ih := giveTo_hi hS hf h0 d (by omega)
    have h1 := (giveTo_ok (f := f) hS (n + d) (by omega) (fun k hk => hf k (by omega))).1
    have h2 := hf (n + d) (by omega)
    have h3 : (giveTo f (n + d) S).2.1 (n + d) = S.2.1 (n + d) := giveTo_room (n + d) (n + d) (Nat.le_refl _)
    have h4 := h0 (n + d) (by omega) (by omega)
    show giveS (n + d) (f (n + d)) (giveTo f (n + d) S) = _
    refine (giveS_0 ?_).trans ih
    rw [h3, h4]; omega
theorem giveTo_n6 {f : Nat → Int} {S : sS} (hS : sOK S) (hf : ∀ k, k < 6 → 0 ≤ f k) {n : Nat} (hn : n ≤ 6) (h0 : ∀ k, n ≤ k → k < 6 → S.2.1 k = 0) : giveTo f n S = giveTo f 6 S := by
  have h := giveTo_hi hS hf h0 (6 - n) (by omega)
  rw [show n + (6 - n) = 6 by omega] at h
  exact h.symm
theorem giveOne_room {sh : Nat → Int} {S : sS} : ∀ (n k : Nat), n ≤ k → (giveOne sh n S).2.1 k = S.2.1 k
  | 0, _, _ => rfl
  | n + 1, k, h => by
    have ih := giveOne_room (sh := sh) (S := S) n k (by omega)
    unfold giveOne
    split
    · show up (giveOne sh n S).2.1 n _ k = _
      rw [up_n (by omega)]; exact ih
    · exact ih
theorem giveOne_hi {sh : Nat → Int} {S : sS} (hS : sOK S) {n : Nat} (h0 : ∀ k, n ≤ k → k < 6 → S.2.1 k = 0) : ∀ d : Nat, n + d ≤ 6 → giveOne sh (n + d) S = giveOne sh n S
  | 0, _ => rfl
  | d + 1, h => by
    have ih := giveOne_hi (sh := sh) hS h0 d (by omega)
    have h1 := (giveOne_ok (sh := sh) hS (n + d) (by omega)).1
    have h3 : (giveOne sh (n + d) S).2.1 (n + d) = S.2.1 (n + d) := giveOne_room (n + d) (n + d) (Nat.le_refl _)
    have h4 := h0 (n + d) (by omega) (by omega)
    show (if 0 < sh (n + d) then giveS (n + d) 1 (giveOne sh (n + d) S) else giveOne sh (n + d) S) = _
    split
    · refine (giveS_0 ?_).trans ih
      rw [h3, h4]; omega
    · exact ih
theorem giveOne_n6 {sh : Nat → Int} {S : sS} (hS : sOK S) {n : Nat} (hn : n ≤ 6) (h0 : ∀ k, n ≤ k → k < 6 → S.2.1 k = 0) : giveOne sh n S = giveOne sh 6 S := by
  have h := giveOne_hi (sh := sh) hS h0 (6 - n) (by omega)
  rw [show n + (6 - n) = 6 by omega] at h
  exact h.symm
theorem giveTo_mono {f : Nat → Int} {S : sS} (hS : sOK S) (hf : ∀ k, k < 6 → 0 ≤ f k) : ∀ j : Nat, j ≤ 6 → (giveTo f j S).1 ≤ S.1 ∧ ∀ k, (k < 6 → (giveTo f j S).2.1 k ≤ S.2.1 k)
  | 0, _ => ⟨Int.le_refl _, fun _ _ => Int.le_refl _⟩
  | j + 1, h => by
    obtain ⟨i1, i2⟩ := giveTo_mono hS hf j (by omega)
    have h1 := giveTo_ok (f := f) hS j (by omega) (fun k hk => hf k (by omega))
    have h2 := h1.2 j (by omega)
    have h3 := h1.1
    have h4 := hf j (by omega)
    refine ⟨?_, fun k hk => ?_⟩
    · show (giveTo f j S).1 - min (f j) (min ((giveTo f j S).2.1 j) (giveTo f j S).1) ≤ S.1
      omega
    · show up (giveTo f j S).2.1 j ((giveTo f j S).2.1 j - min (f j) (min ((giveTo f j S).2.1 j) (giveTo f j S).1)) k ≤ S.2.1 k
      have i3 := i2 k hk
      by_cases hk2 : k = j
      · subst hk2; rw [up_s]; omega
      · rw [up_n hk2]; exact i3
theorem giveTo_left {f : Nat → Int} {S : sS} (hS : sOK S) (hf : ∀ k, k < 6 → 0 ≤ f k) : ∀ j : Nat, j ≤ 6 → S.1 - ssumN f S.2.1 j ≤ (giveTo f j S).1
  | 0, _ => by show S.1 - 0 ≤ S.1; omega
  | j + 1, h => by
    have ih := giveTo_left hS hf j (by omega)
    have h1 := (giveTo_ok (f := f) hS j (by omega) (fun k hk => hf k (by omega))).1
    have h2 : (giveTo f j S).2.1 j = S.2.1 j := giveTo_room j j (Nat.le_refl _)
    have h3 := hS.2 j (by omega)
    have h4 := hf j (by omega)
    show S.1 - (if 0 < S.2.1 j then ssumN f S.2.1 j + f j else ssumN f S.2.1 j) ≤ (giveTo f j S).1 - min (f j) (min ((giveTo f j S).2.1 j) (giveTo f j S).1)
    rw [h2]
    split <;> omega
theorem ssumN_le6 {f R : Nat → Int} (hf : ∀ k, k < 6 → 0 ≤ f k) : ∀ d j : Nat, j + d ≤ 6 → ssumN f R j ≤ ssumN f R (j + d)
  | 0, _, _ => Int.le_refl _
  | d + 1, j, h => by
    have ih := ssumN_le6 (R := R) hf d j (by omega)
    have h1 := hf (j + d) (by omega)
    show _ ≤ (if 0 < R (j + d) then ssumN f R (j + d) + f (j + d) else ssumN f R (j + d))
    split <;> omega
/-- who has room gets his share in full, where all shares together are not more than what is left -/
theorem give_lim {f : Nat → Int} {S : sS} (hS : sOK S) (hf : ∀ k, k < 6 → 0 ≤ f k) (hT : ssumN f S.2.1 6 ≤ S.1) {j : Nat} (hj : j < 6) (hr : 0 < S.2.1 j) : f j ≤ (giveTo f j S).1 := by
  have h1 := giveTo_left hS hf j (by omega)
  have h2 := ssumN_le6 (R := S.2.1) hf (6 - (j + 1)) (j + 1) (by omega)
  rw [show j + 1 + (6 - (j + 1)) = 6 by omega] at h2
  have h3 : ssumN f S.2.1 (j + 1) = ssumN f S.2.1 j + f j := if_pos hr
  omega
/-- either all got in full, or somebody is full now -/
theorem give_two {f : Nat → Int} {S : sS} (hS : sOK S) (hf : ∀ k, k < 6 → 0 ≤ f k) (hT : ssumN f S.2.1 6 ≤ S.1) : ∀ j : Nat, j ≤ 6 → (giveTo f j S).1 = S.1 - ssumN f S.2.1 j ∨ ∃ k, k < j ∧ 0 < S.2.1 k ∧ 0 < f k ∧ (giveTo f j S).2.1 k = 0
  | 0, _ => Or.inl (by show S.1 = S.1 - 0; omega)
  | j + 1, h => by
    have ih := give_two hS hf hT j (by omega)
    have h1 := (giveTo_ok (f := f) hS j (by omega) (fun k hk => hf k (by omega))).1
    have h2 : (giveTo f j S).2.1 j = S.2.1 j := giveTo_room j j (Nat.le_refl _)
    have h3 := hS.2 j (by omega)
    have h4 := hf j (by omega)
    have e1 : (giveTo f (j + 1) S).1 = (giveTo f j S).1 - min (f j) (min (S.2.1 j) (giveTo f j S).1) := by
      show (giveTo f j S).1 - min (f j) (min ((giveTo f j S).2.1 j) (giveTo f j S).1) = _
      rw [h2]
    have e2 : ∀ k, (giveTo f (j + 1) S).2.1 k = if k = j then S.2.1 j - min (f j) (min (S.2.1 j) (giveTo f j S).1) else (giveTo f j S).2.1 k := fun k => by
      show up (giveTo f j S).2.1 j ((giveTo f j S).2.1 j - min (f j) (min ((giveTo f j S).2.1 j) (giveTo f j S).1)) k = _
      rw [h2]; rfl
    rcases ih with ih | ⟨k, k1, k2, k3, k4⟩
    · by_cases hr : 0 < S.2.1 j
      · have h5 := give_lim hS hf hT (j := j) (by omega) hr
        have h6 : ssumN f S.2.1 (j + 1) = ssumN f S.2.1 j + f j := if_pos hr
        by_cases hff : S.2.1 j ≤ f j
        · right
          refine ⟨j, by omega, hr, by omega, ?_⟩
          rw [e2, if_pos rfl]; omega
        · left
          rw [e1, h6]; omega
      · have h6 : ssumN f S.2.1 (j + 1) = ssumN f S.2.1 j := if_neg hr
        left
        rw [e1, h6]; omega
    · right
      refine ⟨k, by omega, k2, k3, ?_⟩
      rw [e2, if_neg (by omega)]; exact k4
/-- nothing fell: nothing was given -/
theorem give_same {f : Nat → Int} {S : sS} (hS : sOK S) (hf : ∀ k, k < 6 → 0 ≤ f k) : ∀ j : Nat, j ≤ 6 → (giveTo f j S).1 = S.1 → giveTo f j S = S ∧ ∀ k, k < j → min (f k) (min (S.2.1 k) S.1) = 0
  | 0, _, _ => ⟨rfl, fun k hk => absurd hk (by omega)⟩
  | j + 1, h, he => by
    have hm := (giveTo_mono hS hf j (by omega)).1
    have h1 := giveTo_ok (f := f) hS j (by omega) (fun k hk => hf k (by omega))
    have h3 := h1.2 j (by omega)
    have h2 := h1.1
    have h4 := hf j (by omega)
    have he2 : (giveTo f j S).1 - min (f j) (min ((giveTo f j S).2.1 j) (giveTo f j S).1) = S.1 := he
    obtain ⟨i1, i2⟩ := give_same hS hf j (by omega) (by omega)
    have hz : min (f j) (min (S.2.1 j) S.1) = 0 := by rw [i1] at he2; omega
    refine ⟨?_, fun k hk => ?_⟩
    · show giveS j (f j) (giveTo f j S) = S
      rw [i1]; exact giveS_0 hz
    · by_cases hkj : k = j
      · subst hkj; exact hz
      · exact i2 k (by omega)
/-! counting -/
def cB (b : Nat → Bool) : Nat → Nat
  | 0 => 0
  | k + 1 => if b k then cB b k + 1 else cB b k
theorem cB_le {b b' : Nat → Bool} : ∀ n : Nat, (∀ k, k < n → b' k = true → b k = true) → cB b' n ≤ cB b n
  | 0, _ => Nat.le_refl _
  | n + 1, h => by
    have ih := cB_le (b := b) (b' := b') n (fun k hk => h k (by omega))
    have h1 := h n (by omega)
    unfold cB
    split
    · rename_i hb; rw [if_pos (h1 hb)]; omega
    · split <;> omega
theorem cB_lt {b b' : Nat → Bool} : ∀ n : Nat, (∀ k, k < n → b' k = true → b k = true) → ∀ j, j < n → b j = true → b' j = false → cB b' n + 1 ≤ cB b n
  | 0, _, j, hj, _, _ => absurd hj (by omega)
  | n + 1, h, j, hj, h1, h2 => by
    by_cases hjn : j = n
    · subst hjn
      have ih := cB_le (b := b) (b' := b') j (fun k hk => h k (by omega))
      show (if b' j then cB b' j + 1 else cB b' j) + 1 ≤ (if b j then cB b j + 1 else cB b j)
      rw [if_pos h1, if_neg (by rw [h2]; simp)]
      omega
    · have ih := cB_lt (b := b) (b' := b') n (fun k hk => h k (by omega)) j (by omega) h1 h2
      have h3 := h n (by omega)
      show (if b' n then cB b' n + 1 else cB b' n) + 1 ≤ (if b n then cB b n + 1 else cB b n)
      split
      · rename_i hb; rw [if_pos (h3 hb)]; omega
      · split <;> omega
theorem cB_max {b : Nat → Bool} : ∀ n : Nat, cB b n ≤ n
  | 0 => Nat.le_refl _
  | n + 1 => by
    have := cB_max (b := b) n
    unfold cB
    split <;> omega
theorem cB_congr {b b' : Nat → Bool} (n : Nat) (h : ∀ k, k < n → b k = b' k) : cB b n = cB b' n :=
  Nat.le_antisymm (cB_le n (fun k hk hb => by rw [← h k hk]; exact hb)) (cB_le n (fun k hk hb => by rw [h k hk]; exact hb))
abbrev bR (R : Nat → Int) : Nat → Bool := fun k => decide (0 < R k)
abbrev bS (sh R : Nat → Int) : Nat → Bool := fun k => decide (0 < R k ∧ 0 < sh k)
abbrev bZ (sh R : Nat → Int) : Nat → Bool := fun k => decide (0 < R k ∧ ¬ 0 < sh k)
theorem cntN_cB (R : Nat → Int) : ∀ n : Nat, cntN R n = (cB (bR R) n : Int)
  | 0 => rfl
  | n + 1 => by
    have ih := cntN_cB R n
    show (if 0 < R n then cntN R n + 1 else cntN R n) = ((if bR R n then cB (bR R) n + 1 else cB (bR R) n : Nat) : Int)
    by_cases h : 0 < R n
    · rw [if_pos h, if_pos (by simpa [bR] using h), ih]; omega
    · rw [if_neg h, if_neg (by simpa [bR] using h), ih]
theorem cB_split (sh R : Nat → Int) : ∀ n : Nat, cB (bS sh R) n + cB (bZ sh R) n = cB (bR R) n
  | 0 => rfl
  | n + 1 => by
    have ih := cB_split sh R n
    show (if bS sh R n then cB (bS sh R) n + 1 else cB (bS sh R) n) + (if bZ sh R n then cB (bZ sh R) n + 1 else cB (bZ sh R) n) = (if bR R n then cB (bR R) n + 1 else cB (bR R) n)
    by_cases h : 0 < R n
    · by_cases g : 0 < sh n
      · rw [if_pos (show bS sh R n = true by simp [bS, h, g]), if_neg (show ¬ bZ sh R n = true by simp [bZ, g]), if_pos (show bR R n = true by simp [bR, h])]; omega
      · rw [if_neg (show ¬ bS sh R n = true by simp [bS, g]), if_pos (show bZ sh R n = true by simp [bZ, h]; omega), if_pos (show bR R n = true by simp [bR, h])]; omega
    · rw [if_neg (show ¬ bS sh R n = true by simp [bS, h]), if_neg (show ¬ bZ sh R n = true by simp [bZ, h]), if_neg (show ¬ bR R n = true by simp [bR, h])]; omega
/-- what is left is not more than the rooms -/
def enR (S : sS) : Prop := S.1 ≤ sumN S.2.1 6
theorem sumN_up {R : Nat → Int} {m : Nat} {x : Int} : ∀ n : Nat, m < n → sumN (up R m x) n = sumN R n - R m + x
  | 0, h => absurd h (by omega)
  | n + 1, h => by
    show sumN (up R m x) n + up R m x n = sumN R n + R n - R m + x
    by_cases hm : m = n
    · subst hm
      rw [up_s]
      have : ∀ j : Nat, j ≤ m → sumN (up R m x) j = sumN R j := by
        intro j
        induction j with
        | zero => intro _; rfl
        | succ j ih =>
          intro hj
          show sumN (up R m x) j + up R m x j = sumN R j + R j
          rw [ih (by omega), up_n (by omega)]
      rw [this m (Nat.le_refl _)]; omega
    · rw [sumN_up n (by omega), up_n (by omega)]; omega
theorem giveS_en (S : sS) (m : Nat) (a : Int) (h : enR S) (_ : sOK S) (hm : m < 6) (_ : 0 ≤ a) : enR (giveS m a S) := by
  have e : sumN (up S.2.1 m (S.2.1 m - min a (min (S.2.1 m) S.1))) 6 = sumN S.2.1 6 - S.2.1 m + (S.2.1 m - min a (min (S.2.1 m) S.1)) := sumN_up 6 hm
  have h' : S.1 ≤ sumN S.2.1 6 := h
  show S.1 - min a (min (S.2.1 m) S.1) ≤ sumN (up S.2.1 m (S.2.1 m - min a (min (S.2.1 m) S.1))) 6
  rw [e]; omega
theorem en_cnt {S : sS} (hS : sOK S) (h : enR S) (h0 : 0 < S.1) : 0 < cB (bR S.2.1) 6 := by
  rcases Nat.eq_zero_or_pos (cB (bR S.2.1) 6) with h1 | h1
  · exfalso
    have h2 := cntN_cB S.2.1 6
    rw [h1] at h2
    have h3 := cntN_0 6 h2
    have h4 : sumN S.2.1 6 ≤ 0 := by
      have z : ∀ n : Nat, n ≤ 6 → sumN S.2.1 n ≤ 0 := by
        intro n
        induction n with
        | zero => intro _; exact Int.le_refl 0
        | succ n ih =>
          intro hn
          have a1 := ih (by omega)
          have a2 := h3 n (by omega)
          show sumN S.2.1 n + S.2.1 n ≤ 0
          omega
      exact z 6 (Nat.le_refl _)
    have h5 : S.1 ≤ sumN S.2.1 6 := h
    omega
  · exact h1
/-! the rounds of EQUAL -/
def mE (S : sS) : Nat := min S.1.toNat (cB (bR S.2.1) 6)
theorem ones_left {S : sS} (hS : sOK S) : ∀ j : Nat, j ≤ 6 → (giveTo (fun _ => 1) j S).1 = max (S.1 - (cB (bR S.2.1) j : Int)) 0
  | 0, _ => by
    have := hS.1
    show S.1 = max (S.1 - ((0 : Nat) : Int)) 0
    omega
  | j + 1, h => by
    have ih := ones_left hS j (by omega)
    have h2 : (giveTo (fun _ => 1) j S).2.1 j = S.2.1 j := giveTo_room j j (Nat.le_refl _)
    have h3 := hS.2 j (by omega)
    show (giveTo (fun _ => 1) j S).1 - min 1 (min ((giveTo (fun _ => 1) j S).2.1 j) (giveTo (fun _ => 1) j S).1) = max (S.1 - ((if bR S.2.1 j then cB (bR S.2.1) j + 1 else cB (bR S.2.1) j : Nat) : Int)) 0
    rw [h2, ih]
    by_cases hb : 0 < S.2.1 j
    · rw [if_pos (show bR S.2.1 j = true by simp [bR, hb])]; omega
    · rw [if_neg (show ¬ bR S.2.1 j = true by simp [bR, hb])]; omega
theorem ssum_const (e : Int) (R : Nat → Int) : ∀ n : Nat, ssumN (fun _ => e) R n = e * (cB (bR R) n : Int)
  | 0 => by show (0 : Int) = e * ((0 : Nat) : Int); simp
  | n + 1 => by
    have ih := ssum_const e R n
    show (if 0 < R n then ssumN (fun _ => e) R n + e else ssumN (fun _ => e) R n) = e * ((if bR R n then cB (bR R) n + 1 else cB (bR R) n : Nat) : Int)
    by_cases h : 0 < R n
    · rw [if_pos h, if_pos (show bR R n = true by simp [bR, h]), ih, Int.natCast_succ, Int.mul_add, Int.mul_one]
    · rw [if_neg h, if_neg (show ¬ bR R n = true by simp [bR, h]), ih]
theorem mE_step {S : sS} (hS : sOK S) (hen : enR S) (h0 : 0 < S.1) : mE (eqStep S) + 1 ≤ mE S := by
  have hc := en_cnt hS hen h0
  have hcn := cntN_cB S.2.1 6
  have he : ∀ k, k < 6 → (0 : Int) ≤ (fun _ : Nat => max 1 (S.1 / cntN S.2.1 6)) k := fun _ _ => max1_nonneg _
  have hmono := giveTo_mono hS he 6 (by omega)
  have hok := eqStep_ok hS
  have hcle : cB (bR (eqStep S).2.1) 6 ≤ cB (bR S.2.1) 6 := cB_le 6 (fun k hk hb => by
    have h1 : (eqStep S).2.1 k ≤ S.2.1 k := hmono.2 k hk
    have h2 : 0 < (eqStep S).2.1 k := by simpa [bR] using hb
    simp only [bR, decide_eq_true_eq]; omega)
  have hl : (eqStep S).1 ≤ S.1 := hmono.1
  have hl0 := hok.1
  generalize hcc : cB (bR S.2.1) 6 = c at *
  rcases Int.lt_or_le S.1 (c : Int) with hlt | hge
  · -- one each
    have hd : S.1 / cntN S.2.1 6 = 0 := by rw [hcn]; exact Int.ediv_eq_zero_of_lt (by omega) hlt
    have e1 : eqStep S = giveTo (fun _ => 1) 6 S := by
      show giveTo (fun _ => max 1 (S.1 / cntN S.2.1 6)) 6 S = _
      rw [hd]; rfl
    have h1 := ones_left hS 6 (by omega)
    rw [← e1, hcc] at h1
    have a2 : mE S = min S.1.toNat c := by unfold mE; rw [hcc]
    have a1 : mE (eqStep S) = min (eqStep S).1.toNat (cB (bR (eqStep S).2.1) 6) := rfl
    omega
  · have hd : 1 ≤ S.1 / cntN S.2.1 6 := by rw [hcn]; exact Int.le_ediv_of_mul_le (by omega) (by omega)
    have e1 : eqStep S = giveTo (fun _ => S.1 / cntN S.2.1 6) 6 S := by
      show giveTo (fun _ => max 1 (S.1 / cntN S.2.1 6)) 6 S = _
      rw [show max 1 (S.1 / cntN S.2.1 6) = S.1 / cntN S.2.1 6 by omega]
    have hf : ∀ k, k < 6 → (0 : Int) ≤ (fun _ : Nat => S.1 / cntN S.2.1 6) k := fun _ _ => by show 0 ≤ S.1 / cntN S.2.1 6; omega
    have hq1 : (c : Int) * (S.1 / cntN S.2.1 6) ≤ S.1 := by rw [hcn]; exact Int.mul_ediv_self_le (by omega)
    have hq2 : S.1 < (c : Int) * (S.1 / cntN S.2.1 6) + c := by rw [hcn]; exact Int.lt_mul_ediv_self_add (by omega)
    have hss : ssumN (fun _ => S.1 / cntN S.2.1 6) S.2.1 6 = (S.1 / cntN S.2.1 6) * (c : Int) := by rw [ssum_const, hcc]
    have hT : ssumN (fun _ => S.1 / cntN S.2.1 6) S.2.1 6 ≤ S.1 := by rw [hss, Int.mul_comm]; exact hq1
    have hne : (eqStep S).1 ≠ S.1 := fun h => by
      rw [e1] at h
      have h2 := (give_same hS hf 6 (by omega) h).2
      -- somebody has room
      have h3 : ∃ k, k < 6 ∧ 0 < S.2.1 k := Classical.byContradiction fun hno => by
        have h4 : cB (bR S.2.1) 6 ≤ cB (fun _ => false) 6 := cB_le 6 (fun k hk hb => absurd ⟨k, hk, by simpa [bR] using hb⟩ hno)
        have h5 : cB (fun _ => false) 6 = 0 := rfl
        omega
      obtain ⟨k, k1, k2⟩ := h3
      have h4 := h2 k k1
      have h5 : min (S.1 / cntN S.2.1 6) (min (S.2.1 k) S.1) = 0 := h4
      omega
    rcases give_two hS hf hT 6 (by omega) with h | ⟨k, k1, k2, k3, k4⟩
    · rw [← e1, hss, Int.mul_comm] at h
      have a2 : mE S = min S.1.toNat c := by unfold mE; rw [hcc]
      have a1 : mE (eqStep S) = min (eqStep S).1.toNat (cB (bR (eqStep S).2.1) 6) := rfl
      omega
    · rw [← e1] at k4
      have hlt : cB (bR (eqStep S).2.1) 6 + 1 ≤ cB (bR S.2.1) 6 := cB_lt 6 (fun j hj hb => by
        have h1 : (eqStep S).2.1 j ≤ S.2.1 j := hmono.2 j hj
        have h2 : 0 < (eqStep S).2.1 j := by simpa [bR] using hb
        simp only [bR, decide_eq_true_eq]; omega) k k1 (by simp [bR, k2]) (by simp [bR, k4])
      rw [hcc] at hlt
      have a2 : mE S = min S.1.toNat c := by unfold mE; rw [hcc]
      have a1 : mE (eqStep S) = min (eqStep S).1.toNat (cB (bR (eqStep S).2.1) 6) := rfl
      omega
theorem eqStep_en {S : sS} (hS : sOK S) (h : enR S) : enR (eqStep S) := giveTo_cl giveS_en h hS 6 (by omega) (fun _ _ => max1_nonneg _)
theorem iterE_en {S : sS} (hS : sOK S) (h : enR S) : ∀ r : Nat, enR (iter eqStep r S)
  | 0 => h
  | r + 1 => eqStep_en (iter_ok (fun _ h => eqStep_ok h) hS r) (iterE_en hS h r)
theorem mE_6 (S : sS) : mE S ≤ 6 := Nat.le_trans (Nat.min_le_right _ _) (cB_max 6)
/-- the sharing is done when nothing is left -/
theorem eqS_done {S : sS} (hS : sOK S) {r : Nat} (hr : r ≤ 1000) (h : (iter eqStep r S).1 = 0) : eqS S = iter eqStep r S :=
  iter_end (by rw [NR_eq]; exact hr) (eqStep_fix (iter_ok (fun _ h => eqStep_ok h) hS r) (Or.inl h))
theorem eqS_z {S : sS} (hS : sOK S) (h : S.1 = 0) : eqS S = S := eqS_done hS (r := 0) (by omega) h
