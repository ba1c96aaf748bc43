/-! a sharing leaves nothing, where there is room enough -/
theorem giveS_sum (c : Int) (S : sS) (m : Nat) (a : Int) (h : sumN S.2.1 6 - S.1 = c) (_ : sOK S) (hm : m < 6) (_ : 0 ≤ a) : sumN (giveS m a S).2.1 6 - (giveS m a S).1 = c := by
  have e : sumN (up S.2.1 m (S.2.1 m - min a (min (S.2.1 m) S.1))) 6 = sumN S.2.1 6 - S.2.1 m + (S.2.1 m - min a (min (S.2.1 m) S.1)) := sumN_up 6 hm
  show sumN (up S.2.1 m (S.2.1 m - min a (min (S.2.1 m) S.1))) 6 - (S.1 - min a (min (S.2.1 m) S.1)) = c
  rw [e]; omega
theorem shS_en {sh : Nat → Int} (hs : ∀ k, k < 6 → 0 ≤ sh k ∧ sh k ≤ 100) {S : sS} (hS : sOK S) (h : enR S) : enR (shS sh S) := shS_cl giveS_en hs h hS
theorem sum_0 {F : Nat → Int} : ∀ n : Nat, (∀ k, k < n → F k = 0) → sumN F n = 0
  | 0, _ => rfl
  | n + 1, h => by
    show sumN F n + F n = 0
    rw [sum_0 n (fun k hk => h k (by omega)), h n (by omega)]; rfl
theorem rankS_left {rk : Nat → Int} (hr : ∀ k, k < 6 → 0 ≤ rk k ∧ rk k ≤ 99) {S : sS} (hS : sOK S) (hen : enR S) : (rankS rk S).1 = 0 := by
  have h1 := rankS_ok hr hS 6
  have h2 : enR (rankS rk S) := rankS_cl giveS_en hr hen hS 6
  have h3 : sOK (rankS rk S) := h1.2
  rcases Int.lt_or_le 0 (rankS rk S).1 with g | g
  · exfalso
    have h4 : ∀ k, k < 6 → (rankS rk S).2.1 k = 0 := fun k hk => by
      have h5 := rT_full hr hS 600 k hk (pl_mod hr hk).2.2.2.2
      rw [← rankS_rT hr hS] at h5
      omega
    have h6 := sum_0 6 h4
    have h7 : (rankS rk S).1 ≤ sumN (rankS rk S).2.1 6 := h2
    omega
  · have := h3.1; omega
theorem roomS_left {S : sS} (hS : sOK S) (hen : enR S) : (roomS S).1 = 0 := by
  have h1 := fR_one hS hen
  have h2 := giveTo_ok (f := fR S) hS 6 (by omega) (fun k hk => fR_nn hS k hk)
  exact ones_end h2 (Nat.le_refl 6) (fun k a b => absurd b (by omega)) h1
theorem shareS_left {ru : Int} {sh rk : Nat → Int} (hs : ∀ k, k < 6 → 0 ≤ sh k ∧ sh k ≤ 100) (hr : ∀ k, k < 6 → 0 ≤ rk k ∧ rk k ≤ 99) {S : sS} (hS : sOK S) (hen : enR S) : (shareS ru sh rk S).1 = 0 := by
  unfold shareS
  split
  · exact eqS_left (shS_ok hs hS) (shS_en hs hS hen)
  · split
    · exact roomS_left hS hen
    · split
      · exact rankS_left hr hS hen
      · exact eqS_left hS hen
theorem shT_left {ru : Int} {t : Nat → Int} (ht : tOK t) {am : Int} {S : sS} (h : sOK S) (ha : 0 ≤ am ∧ am ≤ 30000) (hen : am ≤ sumN S.2.1 6) : (shT ru t am S).1 = 0 ∧ sumN (shT ru t am S).2.1 6 = sumN S.2.1 6 - am := by
  have h1 : sOK (am, S.2.1, fun _ => 0) := ⟨ha, h.2⟩
  have h2 : (shT ru t am S).1 = 0 := shareS_left (tOK_sh ht) (tOK_rk ht) h1 hen
  have h3 : sumN (shT ru t am S).2.1 6 - (shT ru t am S).1 = sumN S.2.1 6 - am := shareS_cl (P := fun S' => sumN S'.2.1 6 - S'.1 = sumN S.2.1 6 - am) (giveS_sum _) (tOK_sh ht) (tOK_rk ht) rfl h1
  exact ⟨h2, by omega⟩
/-! the closing's sides: within bounds -/
section CLO
variable {g u t : Nat → Int} {cb : Int} (hg : rdOK g) (hu : rdOK u) (ht : tOK t) (hc : 0 ≤ cb ∧ cb ≤ t 4)
theorem sur_rd (hg : rdOK g) (hu : rdOK u) : rdOK (surF g u) := fun k hk => by have := hg k hk; have := hu k hk; unfold surF; omega
theorem nee_rd (hg : rdOK g) (hu : rdOK u) : rdOK (neeF g u) := fun k hk => by have := hg k hk; have := hu k hk; unfold neeF; omega
theorem z_ok {R : Nat → Int} (h : rdOK R) {a : Int} (ha : 0 ≤ a ∧ a ≤ 30000) : sOK (a, R, fun _ => 0) := ⟨ha, h⟩
theorem rd_sum {R : Nat → Int} (h : rdOK R) : 0 ≤ sumN R 6 ∧ sumN R 6 ≤ 30000 := by
  have := sumN_b (F := R) (B := 5000) 6 h
  omega
theorem bet_b (hg : rdOK g) (hu : rdOK u) : (0 ≤ betW g u ∧ betW g u ≤ 30000) ∧ betW g u ≤ sumN (surF g u) 6 ∧ betW g u ≤ sumN (neeF g u) 6 := by
  have h1 := rd_sum (sur_rd hg hu)
  have h2 := rd_sum (nee_rd hg hu)
  unfold betW
  omega
theorem cA1_ok (hg : rdOK g) (hu : rdOK u) (ht : tOK t) : sOK (cA1 g u t) ∧ sIn (surF g u) (cA1 g u t) ∧ sumN (cA1 g u t).2.1 6 = sumN (surF g u) 6 - betW g u := by
  have h0 := z_ok (sur_rd hg hu) (a := 0) (by omega)
  have hb := bet_b hg hu
  exact ⟨shT_ok ht h0 hb.1, shT_in ht h0 hb.1, (shT_left ht h0 hb.1 hb.2.1).2⟩
theorem cB1_ok (hg : rdOK g) (hu : rdOK u) (ht : tOK t) : sOK (cB1 g u t) ∧ sIn (neeF g u) (cB1 g u t) ∧ sumN (cB1 g u t).2.1 6 = sumN (neeF g u) 6 - betW g u := by
  have h0 := z_ok (nee_rd hg hu) (a := 0) (by omega)
  have hb := bet_b hg hu
  exact ⟨shT_ok ht h0 hb.1, shT_in ht h0 hb.1, (shT_left ht h0 hb.1 hb.2.2).2⟩
theorem chg_b (hg : rdOK g) (hu : rdOK u) (ht : tOK t) (hc : 0 ≤ cb ∧ cb ≤ t 4) : (0 ≤ chg t cb (cA1 g u t) ∧ chg t cb (cA1 g u t) ≤ 30000) ∧ chg t cb (cA1 g u t) ≤ sumN (cA1 g u t).2.1 6 := by
  have h1 := sum_b (cA1_ok hg hu ht).1
  have h2 := mostC_b ht hc
  unfold chg
  omega
theorem dis_b (hg : rdOK g) (hu : rdOK u) (ht : tOK t) (hc : 0 ≤ cb ∧ cb ≤ t 4) : (0 ≤ dis t cb (cB1 g u t) ∧ dis t cb (cB1 g u t) ≤ 30000) ∧ dis t cb (cB1 g u t) ≤ sumN (cB1 g u t).2.1 6 := by
  have h1 := sum_b (cB1_ok hg hu ht).1
  have h5 := ht.2.2.2.2.2.1
  unfold dis
  omega
theorem cA2_ok (hg : rdOK g) (hu : rdOK u) (ht : tOK t) (hc : 0 ≤ cb ∧ cb ≤ t 4) : sOK (cA2 g u t cb) ∧ sIn (cA1 g u t).2.1 (cA2 g u t cb) := by
  have h1 := (cA1_ok hg hu ht).1
  have h2 := (chg_b hg hu ht hc).1
  exact ⟨shT_ok ht h1 h2, shT_in ht h1 h2⟩
theorem cB2_ok (hg : rdOK g) (hu : rdOK u) (ht : tOK t) (hc : 0 ≤ cb ∧ cb ≤ t 4) : sOK (cB2 g u t cb) ∧ sIn (cB1 g u t).2.1 (cB2 g u t cb) := by
  have h1 := (cB1_ok hg hu ht).1
  have h2 := (dis_b hg hu ht hc).1
  exact ⟨shT_ok ht h1 h2, shT_in ht h1 h2⟩
/-- no room, no part -/
theorem in_0 {R : Nat → Int} {S : sS} (hS : sOK S) (h : sIn R S) {k : Nat} (hk : k < 6) (h0 : R k = 0) : S.2.1 k = 0 ∧ S.2.2 k = 0 := by
  have h1 := hS.2 k hk
  have h2 := h k hk
  omega
theorem sum_z {R : Nat → Int} (h : ∀ k, k < 6 → 0 ≤ R k) (h0 : sumN R 6 ≤ 0) : ∀ k, k < 6 → R k = 0 := fun k hk => by
  have h1 := h k hk
  have h2 := sumN_mem 6 h k hk
  omega
/-- surpluses are left: no needs, and the battery gives nothing -/
theorem caseA (hg : rdOK g) (hu : rdOK u) (ht : tOK t) (hc : 0 ≤ cb ∧ cb ≤ t 4) (h : 0 < sumN (cA1 g u t).2.1 6) : dis t cb (cB1 g u t) = 0 ∧ ∀ k, k < 6 → (cB1 g u t).2.1 k = 0 ∧ (cB2 g u t cb).2.1 k = 0 ∧ (cB2 g u t cb).2.2 k = 0 := by
  have a := cA1_ok hg hu ht
  have b := cB1_ok hg hu ht
  have b2 := cB2_ok hg hu ht hc
  have hs : sumN (cB1 g u t).2.1 6 = 0 := by
    have h1 := a.2.2
    have h2 := b.2.2
    have h3 := sum_b b.1
    unfold betW at h1 h2
    omega
  have hz := sum_z (fun k hk => (b.1.2 k hk).1) (Int.le_of_eq hs)
  refine ⟨?_, fun k hk => ⟨hz k hk, in_0 b2.1 b2.2 hk (hz k hk)⟩⟩
  have := dis_b hg hu ht hc
  omega
theorem caseB (hg : rdOK g) (hu : rdOK u) (ht : tOK t) (hc : 0 ≤ cb ∧ cb ≤ t 4) (h : sumN (cA1 g u t).2.1 6 ≤ 0) : chg t cb (cA1 g u t) = 0 ∧ ∀ k, k < 6 → (cA1 g u t).2.1 k = 0 ∧ (cA2 g u t cb).2.1 k = 0 ∧ (cA2 g u t cb).2.2 k = 0 := by
  have a := cA1_ok hg hu ht
  have a2 := cA2_ok hg hu ht hc
  have hz := sum_z (fun k hk => (a.1.2 k hk).1) h
  refine ⟨?_, fun k hk => ⟨hz k hk, in_0 a2.1 a2.2 hk (hz k hk)⟩⟩
  have := chg_b hg hu ht hc
  omega
theorem caseC (hg : rdOK g) (hu : rdOK u) (ht : tOK t) (hc : 0 ≤ cb ∧ cb ≤ t 4) (h : sumN (cB1 g u t).2.1 6 ≤ 0) : dis t cb (cB1 g u t) = 0 ∧ ∀ k, k < 6 → (cB1 g u t).2.1 k = 0 ∧ (cB2 g u t cb).2.1 k = 0 ∧ (cB2 g u t cb).2.2 k = 0 := by
  have a := cB1_ok hg hu ht
  have a2 := cB2_ok hg hu ht hc
  have hz := sum_z (fun k hk => (a.1.2 k hk).1) h
  refine ⟨?_, fun k hk => ⟨hz k hk, in_0 a2.1 a2.2 hk (hz k hk)⟩⟩
  have := dis_b hg hu ht hc
  omega
theorem CAft_A (hg : rdOK g) (hu : rdOK u) (ht : tOK t) (hc : 0 ≤ cb ∧ cb ≤ t 4) (h : 0 < sumN (cA1 g u t).2.1 6) : cb + chg t cb (cA1 g u t) * t 6 / 100 = CAft g u t cb := by
  unfold CAft
  rw [(caseA hg hu ht hc h).1, Int.sub_zero]
theorem CAft_B (hg : rdOK g) (hu : rdOK u) (ht : tOK t) (hc : 0 ≤ cb ∧ cb ≤ t 4) (h : sumN (cA1 g u t).2.1 6 ≤ 0) : cb - dis t cb (cB1 g u t) = CAft g u t cb := by
  unfold CAft
  rw [(caseB hg hu ht hc h).1, Int.zero_mul, Int.zero_ediv, Int.add_zero]
/-- a member with no reading has no flows -/
theorem CV_0 (hg : rdOK g) (hu : rdOK u) (ht : tOK t) (hc : 0 ≤ cb ∧ cb ≤ t 4) {m : Nat} (hm : m < 6) (g0 : g m = 0) (u0 : u m = 0) {k : Nat} (hk : k < 8) : CV g u t cb (m * 8 + k) = 0 := by
  have s1 : surF g u m = 0 := by unfold surF; rw [g0, u0]; rfl
  have s2 : neeF g u m = 0 := by unfold neeF; rw [g0, u0]; rfl
  have a1 := cA1_ok hg hu ht
  have b1 := cB1_ok hg hu ht
  have a2 := cA2_ok hg hu ht hc
  have b2 := cB2_ok hg hu ht hc
  have za := in_0 a1.1 a1.2.1 hm s1
  have zb := in_0 b1.1 b1.2.1 hm s2
  have za2 := in_0 a2.1 a2.2 hm za.1
  have zb2 := in_0 b2.1 b2.2 hm zb.1
  have hf : ∀ k, k < 7 → cF g u t cb (m * 8 + k) = 0 := fun k hk => by
    rw [cF_at hk, za.2, zb.2, za2.1, za2.2, zb2.1, zb2.2, g0, u0]
    repeat' split
    all_goals rfl
  unfold CV
  rw [show (m * 8 + k) % 8 = k by omega, show (m * 8 + k) / 8 = m by omega]
  split
  · unfold mon
    rw [hf 1 (by omega), hf 2 (by omega), hf 3 (by omega), hf 4 (by omega), hf 5 (by omega), hf 6 (by omega)]
    simp
  · exact hf k (by omega)
theorem CV_k {m k : Nat} (hk : k < 7) : CV g u t cb (m * 8 + k) = cF g u t cb (m * 8 + k) := by
  unfold CV
  rw [show (m * 8 + k) % 8 = k by omega, if_neg (by omega)]
theorem CV_7 {m : Nat} : t 3 * ((cA1 g u t).2.2 m + (cA2 g u t cb).2.2 m - (cB1 g u t).2.2 m - (cB2 g u t cb).2.2 m) + t 2 * (cA2 g u t cb).2.1 m - t 1 * (cB2 g u t cb).2.1 m = CV g u t cb (m * 8 + 7) := by
  unfold CV
  rw [show (m * 8 + 7) % 8 = 7 by omega, show (m * 8 + 7) / 8 = m by omega, if_pos rfl]
  unfold mon
  rw [cF_at (k := 4) (by omega), cF_at (k := 5) (by omega), cF_at (k := 1) (by omega), cF_at (k := 2) (by omega), cF_at (k := 6) (by omega), cF_at (k := 3) (by omega)]
  simp only [if_neg (show ¬ (4 : Nat) = 0 by decide), if_neg (show ¬ (4 : Nat) = 1 by decide), if_neg (show ¬ (4 : Nat) = 2 by decide), if_neg (show ¬ (4 : Nat) = 3 by decide), if_neg (show ¬ (5 : Nat) = 0 by decide), if_neg (show ¬ (5 : Nat) = 1 by decide), if_neg (show ¬ (5 : Nat) = 2 by decide), if_neg (show ¬ (5 : Nat) = 3 by decide), if_neg (show ¬ (5 : Nat) = 4 by decide), if_neg (show ¬ (1 : Nat) = 0 by decide), if_neg (show ¬ (2 : Nat) = 0 by decide), if_neg (show ¬ (2 : Nat) = 1 by decide), if_neg (show ¬ (6 : Nat) = 0 by decide), if_neg (show ¬ (6 : Nat) = 1 by decide), if_neg (show ¬ (6 : Nat) = 2 by decide), if_neg (show ¬ (6 : Nat) = 3 by decide), if_neg (show ¬ (6 : Nat) = 4 by decide), if_neg (show ¬ (6 : Nat) = 5 by decide), if_neg (show ¬ (3 : Nat) = 0 by decide), if_neg (show ¬ (3 : Nat) = 1 by decide), if_neg (show ¬ (3 : Nat) = 2 by decide), if_true]
  rw [show ∀ a b c d : Int, a + b - c - d = a + b - (c + d) from fun a b c d => by omega]
end CLO
/-! the row of flows while it is written -/
noncomputable def cI (g u t : Nat → Int) (cb : Int) (n i k : Nat) : Nat → Int := fun x => if x / 8 < i ∨ (x / 8 = i ∧ x % 8 < k) then CV g u t cb x else ownF g u (fun _ => 0) n x
theorem cI_s {g u t : Nat → Int} {cb : Int} {n i k : Nat} (hk : k < 8) : up (cI g u t cb n i k) (i * 8 + k) (CV g u t cb (i * 8 + k)) = cI g u t cb n i (k + 1) := by
  funext x
  unfold up cI
  by_cases hx : x = i * 8 + k
  · subst hx
    rw [if_pos rfl, if_pos (by omega)]
  · rw [if_neg hx]
    by_cases h : x / 8 < i ∨ (x / 8 = i ∧ x % 8 < k)
    · rw [if_pos h, if_pos (by omega)]
    · rw [if_neg h, if_neg (by omega)]
theorem cI_0 {g u t : Nat → Int} {cb : Int} {n : Nat} : cI g u t cb n 0 0 = ownF g u (fun _ => 0) n := by
  funext x
  unfold cI
  rw [if_neg (by omega)]
theorem cI_1 {g u t : Nat → Int} {cb : Int} {n i : Nat} (hi : i < n) : cI g u t cb n i 0 = cI g u t cb n i 1 := by
  funext x
  unfold cI
  by_cases h : x / 8 < i ∨ (x / 8 = i ∧ x % 8 < 0)
  · rw [if_pos h, if_pos (by omega)]
  · rw [if_neg h]
    by_cases h2 : x / 8 < i ∨ (x / 8 = i ∧ x % 8 < 1)
    · rw [if_pos h2]
      have hx : x = i * 8 + 0 := by omega
      rw [hx, ownF_at (by omega) n, if_pos ⟨hi, rfl⟩, CV_k (by omega), cF_at (by omega), if_pos rfl]
    · rw [if_neg h2]
theorem cI_8 {g u t : Nat → Int} {cb : Int} {n i : Nat} : cI g u t cb n i 8 = cI g u t cb n (i + 1) 0 := by
  funext x
  unfold cI
  by_cases h : x / 8 < i ∨ (x / 8 = i ∧ x % 8 < 8)
  · rw [if_pos h, if_pos (by omega)]
  · rw [if_neg h, if_neg (by omega)]
theorem cI_end {g u t : Nat → Int} {cb : Int} {n : Nat} (hg : rdOK g) (hu : rdOK u) (ht : tOK t) (hc : 0 ≤ cb ∧ cb ≤ t 4) (g0 : nul n g) (u0 : nul n u) {x : Nat} (hx : x < 48) : cI g u t cb n n 0 x = CV g u t cb x := by
  unfold cI
  split
  · rfl
  · have e : x = (x / 8) * 8 + x % 8 := by omega
    have h1 : n ≤ x / 8 := by omega
    rw [e, ownF_at (by omega) n, if_neg (by omega), CV_0 hg hu ht hc (by omega) (g0 _ h1 (by omega)) (u0 _ h1 (by omega)) (by omega)]
/-! cells that a closing makes -/
noncomputable def clY (g u t : Nat → Int) (cb : Int) : Nat := shX (t 0) (betW g u) (neeF g u) + (if 0 < sumN (cA1 g u t).2.1 6 then 2 else if 0 < sumN (cB1 g u t).2.1 6 then 1 + shX (t 0) (dis t cb (cB1 g u t)) (cB1 g u t).2.1 else 0)
/-- how many have a reading -/
def rdC (g u : Nat → Int) : Nat := cB (fun k => decide (g k ≠ 0 ∨ u k ≠ 0)) 6
theorem nee_c {g u : Nat → Int} (hg : rdOK g) (hu : rdOK u) : cB (bR (neeF g u)) 6 ≤ rdC g u := cB_le 6 (fun k hk hb => by
  have h1 : 0 < neeF g u k := of_decide_eq_true hb
  have h2 := hg k hk
  have h3 := hu k hk
  unfold neeF at h1
  exact decide_eq_true (by omega))
theorem sum_ex {R : Nat → Int} (h : 0 < sumN R 6) : ∃ k, k < 6 ∧ 0 < R k := Classical.byContradiction fun hno => by
  have z : ∀ n : Nat, n ≤ 6 → sumN R n ≤ 0 := by
    intro n
    induction n with
    | zero => intro _; exact Int.le_refl 0
    | succ n ih =>
      intro hn
      have a1 := ih (by omega)
      have a2 : ¬ 0 < R n := fun q => hno ⟨n, by omega, q⟩
      show sumN R n + R n ≤ 0
      omega
  have := z 6 (Nat.le_refl 6)
  omega
theorem rd_pos {g u : Nat → Int} {k : Nat} (hk : k < 6) (h : g k ≠ 0 ∨ u k ≠ 0) : 1 ≤ rdC g u := by
  have h1 : cB (fun _ => false) 6 + 1 ≤ rdC g u := cB_lt (b' := fun _ => false) 6 (fun j hj hb => by cases hb) k hk (decide_eq_true h) rfl
  omega
theorem clY_b {g u t : Nat → Int} {cb : Int} (hg : rdOK g) (hu : rdOK u) (ht : tOK t) (hc : 0 ≤ cb ∧ cb ≤ t 4) : clY g u t cb ≤ 1 + 2 * rdC g u := by
  have a1 := cA1_ok hg hu ht
  have b1 := cB1_ok hg hu ht
  have hn := nee_c hg hu
  have hn1 : cB (bR (cB1 g u t).2.1) 6 ≤ cB (bR (neeF g u)) 6 := cB_le 6 (fun k hk hb => by
    have h1 : 0 < (cB1 g u t).2.1 k := of_decide_eq_true hb
    have h2 := b1.2.1 k hk
    exact decide_eq_true (by omega))
  have hA : 0 < sumN (cA1 g u t).2.1 6 → 1 ≤ rdC g u := fun h => by
    obtain ⟨k, k1, k2⟩ := sum_ex h
    have h2 := a1.2.1 k k1
    have h3 : 0 < surF g u k := by omega
    have h4 := hg k k1
    have h5 := hu k k1
    unfold surF at h3
    exact rd_pos k1 (by omega)
  have hB : 0 < sumN (cB1 g u t).2.1 6 → 1 ≤ rdC g u := fun h => by
    obtain ⟨k, k1, k2⟩ := sum_ex h
    have h2 := b1.2.1 k k1
    have h3 : 0 < neeF g u k := by omega
    have h4 := hg k k1
    have h5 := hu k k1
    unfold neeF at h3
    exact rd_pos k1 (by omega)
  have hbt : 0 < betW g u → cB (bR (neeF g u)) 6 + 1 ≤ rdC g u := fun h => by
    have h1 := (bet_b hg hu).2.1
    obtain ⟨k, k1, k2⟩ := sum_ex (R := surF g u) (by omega)
    have h4 := hg k k1
    have h5 := hu k k1
    unfold surF at k2
    refine cB_lt 6 (fun j hj hb => ?_) k k1 (decide_eq_true (by omega)) (decide_eq_false (by unfold neeF; omega))
    have h6 : 0 < neeF g u j := of_decide_eq_true hb
    have h7 := hg j hj
    have h8 := hu j hj
    unfold neeF at h6
    exact decide_eq_true (by omega)
  unfold clY shX
  repeat' split
  all_goals omega
