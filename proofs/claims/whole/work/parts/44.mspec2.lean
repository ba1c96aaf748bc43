/-! what holds through a sharing of the reference -/
def shI (n : Nat) (R : Nat → Int) (T : sS) : Prop := sOK T ∧ sIn R T ∧ nul n T.2.1 ∧ enR T
theorem giveS_nul {n : Nat} (S : sS) (m : Nat) (a : Int) (h : nul n S.2.1) (hS : sOK S) (hm : m < 6) (ha : 0 ≤ a) : nul n (giveS m a S).2.1 := fun k h1 h2 => by
  have h3 := h k h1 h2
  have h4 := hS.1
  show up S.2.1 m (S.2.1 m - min a (min (S.2.1 m) S.1)) k = 0
  by_cases hk : k = m
  · subst hk; rw [up_s, h3]; omega
  · rw [up_n hk]; exact h3
theorem shI_to {n : Nat} {R : Nat → Int} {T : sS} (h : shI n R T) {f : Nat → Int} (hf : ∀ k, k < 6 → 0 ≤ f k) {j : Nat} (hj : j ≤ 6) : shI n R (giveTo f j T) :=
  ⟨giveTo_ok h.1 j hj (fun k hk => hf k (by omega)), giveTo_cl giveS_in h.2.1 h.1 j hj (fun k hk => hf k (by omega)), giveTo_cl (P := fun S => nul n S.2.1) giveS_nul h.2.2.1 h.1 j hj (fun k hk => hf k (by omega)), giveTo_cl giveS_en h.2.2.2 h.1 j hj (fun k hk => hf k (by omega))⟩
theorem shI_one {n : Nat} {R : Nat → Int} {T : sS} (h : shI n R T) {sh : Nat → Int} {j : Nat} (hj : j ≤ 6) : shI n R (giveOne sh j T) :=
  ⟨giveOne_ok h.1 j hj, giveOne_cl giveS_in h.2.1 h.1 j hj, giveOne_cl (P := fun S => nul n S.2.1) giveS_nul h.2.2.1 h.1 j hj, giveOne_cl giveS_en h.2.2.2 h.1 j hj⟩
theorem shI_eq {n : Nat} {R : Nat → Int} {T : sS} (h : shI n R T) : shI n R (eqStep T) := shI_to h (fun _ _ => max1_nonneg _) (Nat.le_refl 6)
theorem shI_iter {n : Nat} {R : Nat → Int} {f : sS → sS} (hf : ∀ T, shI n R T → shI n R (f T)) {T : sS} (h : shI n R T) : ∀ r : Nat, shI n R (iter f r T)
  | 0 => h
  | r + 1 => hf _ (shI_iter hf h r)
theorem shI_sh {n : Nat} {R : Nat → Int} {T : sS} {sh : Nat → Int} (hs : ∀ k, k < 6 → 0 ≤ sh k ∧ sh k ≤ 100) (h : shI n R T) : shI n R (shStep sh T) := by
  have h1 := shI_to h (fS_nn hs h.1) (Nat.le_refl 6)
  unfold shStep
  split
  · exact shI_one h1 (Nat.le_refl 6)
  · exact h1
theorem shI_eqS {n : Nat} {R : Nat → Int} {T : sS} (h : shI n R T) : shI n R (eqS T) := shI_iter (fun _ h => shI_eq h) h NR
theorem eq_ends {T : sS} (hT : sOK T) (hen : enR T) : ∀ d r : Nat, mE (iter eqStep r T) ≤ d → ∃ r', r' ≤ r + d ∧ (iter eqStep r' T).1 = 0
  | 0, r, h => by
    have h1 : sOK (iter eqStep r T) := iter_ok (fun _ h => eqStep_ok h) hT r
    have h2 : enR (iter eqStep r T) := iterE_en hT hen r
    rcases Int.lt_or_le 0 (iter eqStep r T).1 with g | g
    · have := mE_step h1 h2 g; omega
    · exact ⟨r, by omega, by have := h1.1; omega⟩
  | d + 1, r, h => by
    have h1 : sOK (iter eqStep r T) := iter_ok (fun _ h => eqStep_ok h) hT r
    have h2 : enR (iter eqStep r T) := iterE_en hT hen r
    rcases Int.lt_or_le 0 (iter eqStep r T).1 with g | g
    · have h3 := mE_step h1 h2 g
      obtain ⟨r', a, b⟩ := eq_ends hT hen d (r + 1) (by show mE (eqStep (iter eqStep r T)) ≤ d; omega)
      exact ⟨r', by omega, b⟩
    · exact ⟨r, by omega, by have := h1.1; omega⟩
theorem eqS_left {T : sS} (hT : sOK T) (hen : enR T) : (eqS T).1 = 0 := by
  obtain ⟨r, h1, h2⟩ := eq_ends hT hen 6 0 (mE_6 T)
  rw [eqS_done hT (by omega) h2]
  exact h2
theorem rm_p {R : Nat → Int} {k : Nat} (h : rmF R k ≠ 0) : 0 < R k := Classical.byContradiction fun g => h (if_neg g)
theorem rm_n {R : Nat → Int} {k : Nat} (h : rmF R k = 0) : ¬ 0 < R k := fun g => by
  have e : rmF R k = 1 := if_pos g
  omega
theorem rs_p {sh R : Nat → Int} {k : Nat} (h : rsF sh R k ≠ 0) : 0 < R k ∧ 0 < sh k := Classical.byContradiction fun g => h (if_neg g)
theorem rs_n {sh R : Nat → Int} {k : Nat} (h : rsF sh R k = 0) : ¬ (0 < R k ∧ 0 < sh k) := fun g => by
  have e : rsF sh R k = 1 := if_pos g
  omega
theorem cnt_s0 {R : Nat → Int} {k : Nat} (h : rmF R k = 0) : cntN R k + 0 = cntN R (k + 1) := by
  show _ = (if 0 < R k then cntN R k + 1 else cntN R k)
  rw [if_neg (rm_n h), Int.add_zero]
theorem cnt_s1 {R : Nat → Int} {k : Nat} (h : rmF R k ≠ 0) : cntN R k + 1 = cntN R (k + 1) := by
  show _ = (if 0 < R k then cntN R k + 1 else cntN R k)
  rw [if_pos (rm_p h)]
theorem ssum_s0 {sh R : Nat → Int} {k : Nat} (hs : 0 ≤ sh k) (h : rsF sh R k = 0) : ssumN sh R k + 0 = ssumN sh R (k + 1) := by
  have h1 := rs_n h
  show _ = (if 0 < R k then ssumN sh R k + sh k else ssumN sh R k)
  split
  · have : sh k = 0 := by omega
    rw [this]
  · exact Int.add_zero _
theorem ssum_s1 {sh R : Nat → Int} {k : Nat} (h : rsF sh R k ≠ 0) : ssumN sh R k + sh k = ssumN sh R (k + 1) := by
  show _ = (if 0 < R k then ssumN sh R k + sh k else ssumN sh R k)
  rw [if_pos (rs_p h).1]
theorem ssumN_n6 {sh R : Nat → Int} {n : Nat} (h0 : nul n R) : ∀ d : Nat, n + d ≤ 6 → ssumN sh R (n + d) = ssumN sh R n
  | 0, _ => rfl
  | d + 1, h => by
    show (if 0 < R (n + d) then ssumN sh R (n + d) + sh (n + d) else ssumN sh R (n + d)) = _
    rw [if_neg (by have := h0 (n + d) (by omega) (by omega); omega)]
    exact ssumN_n6 h0 d (by omega)
theorem ssumN_6 {sh R : Nat → Int} {n : Nat} (hn : n ≤ 6) (h0 : nul n R) : ssumN sh R n = ssumN sh R 6 := by
  have h := ssumN_n6 (sh := sh) h0 (6 - n) (by omega)
  rw [show n + (6 - n) = 6 by omega] at h
  exact h.symm
theorem sumN_n6 {R : Nat → Int} {n : Nat} (h0 : nul n R) : ∀ d : Nat, n + d ≤ 6 → sumN R (n + d) = sumN R n
  | 0, _ => rfl
  | d + 1, h => by
    show sumN R (n + d) + R (n + d) = _
    rw [h0 (n + d) (by omega) (by omega), Int.add_zero]
    exact sumN_n6 h0 d (by omega)
theorem sumN_6 {R : Nat → Int} {n : Nat} (hn : n ≤ 6) (h0 : nul n R) : sumN R n = sumN R 6 := by
  have h := sumN_n6 h0 (6 - n) (by omega)
  rw [show n + (6 - n) = 6 by omega] at h
  exact h.symm
theorem eq_one {T : sS} (hT : sOK T) (h0 : 0 < cntN T.2.1 6) (he : T.1 / cntN T.2.1 6 = 0) : T.1 ≤ (cB (bR T.2.1) 6 : Int) := by
  have h1 : T.1 < cntN T.2.1 6 * (T.1 / cntN T.2.1 6) + cntN T.2.1 6 := Int.lt_mul_ediv_self_add h0
  rw [he, Int.mul_zero, cntN_cB] at h1
  omega
theorem eq_last {n : Nat} {R : Nat → Int} {S T : sS} {r : Nat} (hS : sOK S) (hI : shI n R T) (hr : r ≤ 900) (hT : T = iter eqStep r S) (h0 : 0 < cntN T.2.1 6) (he : T.1 / cntN T.2.1 6 = 0) : eqS S = giveTo (fun _ => 1) 6 T := by
  have e1 : eqStep T = giveTo (fun _ => 1) 6 T := by
    show giveTo (fun _ => max 1 (T.1 / cntN T.2.1 6)) 6 T = _
    rw [he]; rfl
  have e2 : iter eqStep (r + 1) S = giveTo (fun _ => 1) 6 T := by rw [← e1, hT]; rfl
  rw [eqS_done hS (r := r + 1) (by omega) (by rw [e2]; exact ones_end hI.1 (Nat.le_refl 6) (fun k h1 h2 => absurd h2 (by omega)) (eq_one hI.1 h0 he)), e2]
theorem eq_en {T : sS} (e : Int) (h0 : 0 < cntN T.2.1 6) (he : e = T.1 / cntN T.2.1 6) : ssumN (fun _ => e) T.2.1 6 ≤ T.1 := by
  rw [ssum_const, ← cntN_cB, he, Int.mul_comm]
  exact Int.mul_ediv_self_le (by omega)
theorem giveTo_part {f : Nat → Int} {S : sS} : ∀ (n k : Nat), n ≤ k → (giveTo f n S).2.2 k = S.2.2 k
  | 0, _, _ => rfl
  | n + 1, k, h => by
    show up (giveTo f n S).2.2 n _ k = _
    rw [up_n (by omega)]
    exact giveTo_part n k (by omega)
theorem fR_0 {S : sS} (hS : sOK S) (h : sumN S.2.1 6 ≤ 0) {j : Nat} (hj : j ≤ 6) : giveTo (fR S) j S = S := by
  have h1 := sum_b hS
  refine giveTo_0 j (fun m hm => ?_)
  have h2 : fR S m = 0 := by show S.1 * S.2.1 m / sumN S.2.1 6 = 0; rw [show sumN S.2.1 6 = 0 by omega, Int.ediv_zero]
  have h3 := hS.2 m (by omega)
  have h4 := hS.1
  rw [h2]; omega
theorem fR_one {S : sS} (hS : sOK S) (hen : enR S) : (giveTo (fR S) 6 S).1 ≤ (cB (bR (giveTo (fR S) 6 S).2.1) 6 : Int) := by
  rcases Int.lt_or_le 0 (sumN S.2.1 6) with h | h
  · exact fR_cnt hS hen h
  · rw [fR_0 hS h (Nat.le_refl 6)]
    have : S.1 ≤ sumN S.2.1 6 := hen
    omega
/-- a member whose place is still to come has got nothing -/
theorem rT_new {rk : Nat → Int} (hr : ∀ k, k < 6 → 0 ≤ rk k ∧ rk k ≤ 99) {S : sS} : ∀ q : Nat, ∀ k, k < 6 → (q : Int) ≤ pl rk k → (rT rk S q).2.1 k = S.2.1 k ∧ (rT rk S q).2.2 k = S.2.2 k
  | 0, _, _, _ => ⟨rfl, rfl⟩
  | q + 1, k, hk, h => by
    have ih := rT_new hr (S := S) q k hk (by omega)
    unfold rT
    split
    · rename_i hc
      have h1 := pl_at hr hc
      have hne : k ≠ q % 6 := fun e => by rw [← e] at h1; omega
      show up (rT rk S q).2.1 (q % 6) _ k = _ ∧ up (rT rk S q).2.2 (q % 6) _ k = _
      rw [up_n hne, up_n hne]; exact ih
    · exact ih
theorem rT_I {n : Nat} {R : Nat → Int} {rk : Nat → Int} {S : sS} (h : shI n R S) : ∀ q : Nat, shI n R (rT rk S q)
  | 0 => h
  | q + 1 => by
    have ih := rT_I (rk := rk) h q
    unfold rT
    split
    · exact ⟨giveS_ok ih.1 (by omega) ih.1.1.1, giveS_in _ _ _ ih.2.1 ih.1 (by omega) ih.1.1.1, giveS_nul _ _ _ ih.2.2.1 ih.1 (by omega) ih.1.1.1, giveS_en _ _ _ ih.2.2.2 ih.1 (by omega) ih.1.1.1⟩
    · exact ih
theorem rT_pad {n : Nat} {R : Nat → Int} {rk : Nat → Int} {S : sS} (h : shI n R S) (g : Nat) : ∀ d : Nat, n + d ≤ 6 → rT rk S (g * 6 + (n + d)) = rT rk S (g * 6 + n)
  | 0, _ => rfl
  | d + 1, hd => by
    have ih := rT_pad (rk := rk) h g d (by omega)
    have hI := rT_I (rk := rk) h (g * 6 + (n + d))
    show (if rk ((g * 6 + (n + d)) % 6) = (((g * 6 + (n + d)) / 6 : Nat) : Int) then giveS ((g * 6 + (n + d)) % 6) (rT rk S (g * 6 + (n + d))).1 (rT rk S (g * 6 + (n + d))) else rT rk S (g * 6 + (n + d))) = _
    split
    · refine (giveS_0 ?_).trans ih
      rw [show (g * 6 + (n + d)) % 6 = n + d by omega, hI.2.2.1 (n + d) (by omega) (by omega)]
      have := hI.1.1
      omega
    · exact ih
theorem rT_pad6 {n : Nat} {R : Nat → Int} {rk : Nat → Int} {S : sS} (h : shI n R S) (hn : n ≤ 6) (g : Nat) : rT rk S (g * 6 + n) = rT rk S ((g + 1) * 6) := by
  have h1 := rT_pad (rk := rk) h g (6 - n) (by omega)
  rw [show g * 6 + (n + (6 - n)) = (g + 1) * 6 by omega] at h1
  exact h1.symm
theorem rT_go {rk : Nat → Int} {S : sS} {g j : Nat} (hj : j < 6) (h : rk j = (g : Int)) : rT rk S (g * 6 + (j + 1)) = giveS j (rT rk S (g * 6 + j)).1 (rT rk S (g * 6 + j)) := by
  show (if rk ((g * 6 + j) % 6) = (((g * 6 + j) / 6 : Nat) : Int) then giveS ((g * 6 + j) % 6) (rT rk S (g * 6 + j)).1 (rT rk S (g * 6 + j)) else rT rk S (g * 6 + j)) = _
  rw [show (g * 6 + j) % 6 = j by omega, show (g * 6 + j) / 6 = g by omega, if_pos h]
theorem rT_stay {rk : Nat → Int} {S : sS} {g j : Nat} (hj : j < 6) (h : rk j ≠ (g : Int)) : rT rk S (g * 6 + (j + 1)) = rT rk S (g * 6 + j) := by
  show (if rk ((g * 6 + j) % 6) = (((g * 6 + j) / 6 : Nat) : Int) then giveS ((g * 6 + j) % 6) (rT rk S (g * 6 + j)).1 (rT rk S (g * 6 + j)) else rT rk S (g * 6 + j)) = _
  rw [show (g * 6 + j) % 6 = j by omega, show (g * 6 + j) / 6 = g by omega, if_neg h]
/-- cells that a sharing makes beside its row -/
def shX (ru a : Int) (R : Nat → Int) : Nat := if ru = 2 then 1 else if 0 < a then cB (bR R) 6 + 1 else 0
theorem mE_c (S : sS) : mE S ≤ cB (bR S.2.1) 6 := Nat.min_le_right _ _
theorem mE_0 {S : sS} (h : S.1 ≤ 0) : mE S = 0 := by
  have : S.1.toNat = 0 := by omega
  unfold mE; rw [this]; exact Nat.zero_min _
theorem mS_0 {sh : Nat → Int} {S : sS} (h : S.1 ≤ 0) : mS sh S = 0 := if_neg (by omega)
theorem shX_E (S : sS) : mE S ≤ shX 0 S.1 S.2.1 := by
  unfold shX
  rw [if_neg (by decide)]
  have := mE_c S
  split
  · omega
  · rw [mE_0 (by omega)]; exact Nat.le_refl 0
theorem shX_S (sh : Nat → Int) (S : sS) : mS sh S ≤ shX 1 S.1 S.2.1 := by
  unfold shX
  rw [if_neg (by decide)]
  have := mS_b sh S
  split
  · omega
  · rw [mS_0 (by omega)]; exact Nat.le_refl 0
