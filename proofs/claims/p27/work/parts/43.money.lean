/-! a sharing gives all: nothing is left where the rooms suffice -/
theorem giveS_tot {K : Int} (S : sS) (m : Nat) (a : Int) (h : S.1 + sumN S.2.2 6 = K) (_ : sOK S) (hm : m < 6) (_ : 0 ≤ a) : (giveS m a S).1 + sumN (giveS m a S).2.2 6 = K := by
  have e : sumN (up S.2.2 m (S.2.2 m + min a (min (S.2.1 m) S.1))) 6 = sumN S.2.2 6 - S.2.2 m + (S.2.2 m + min a (min (S.2.1 m) S.1)) := sumN_up 6 hm
  show S.1 - min a (min (S.2.1 m) S.1) + sumN (up S.2.2 m (S.2.2 m + min a (min (S.2.1 m) S.1))) 6 = K
  rw [e]; omega
theorem eq_down {S : sS} (hS : sOK S) (hen : enR S) : ∀ r : Nat, (iter eqStep r S).1 = 0 ∨ mE (iter eqStep r S) + r ≤ mE S
  | 0 => Or.inr (Nat.le_refl _)
  | r + 1 => by
    have hr : sOK (iter eqStep r S) := iter_ok (P := sOK) (fun _ h => eqStep_ok h) hS r
    rcases eq_down hS hen r with h | h
    · left
      show (eqStep (iter eqStep r S)).1 = 0
      rw [eqStep_fix hr (Or.inl h)]; exact h
    · by_cases h0 : (iter eqStep r S).1 = 0
      · left
        show (eqStep (iter eqStep r S)).1 = 0
        rw [eqStep_fix hr (Or.inl h0)]; exact h0
      · right
        have h9 := hr.1.1
        have h1 : mE (eqStep (iter eqStep r S)) + 1 ≤ mE (iter eqStep r S) := mE_step hr (iterE_en hS hen r) (by omega)
        show mE (eqStep (iter eqStep r S)) + (r + 1) ≤ mE S
        omega
theorem eqS_left {S : sS} (hS : sOK S) (hen : enR S) : (eqS S).1 = 0 := by
  have h : (iter eqStep 7 S).1 = 0 := by
    rcases eq_down hS hen 7 with h | h
    · exact h
    · have := mE_6 S; omega
  rw [eqS_done hS (r := 7) (by omega) h]; exact h
theorem roomS_left {S : sS} (hS : sOK S) (hen : enR S) : (roomS S).1 = 0 := by
  have hb := sumN_b (F := S.2.1) (B := 5000) 6 hS.2
  by_cases h0 : sumN S.2.1 6 = 0
  · rw [roomS_fix hS h0]
    have h1 : S.1 ≤ sumN S.2.1 6 := hen
    have := hS.1
    omega
  · have hp : 0 < sumN S.2.1 6 := by omega
    have h1 := fR_cnt hS hen hp
    have h2 := ones_left (giveTo_ok (f := fR S) hS 6 (by omega) (fun k hk => fR_nn hS k hk)) 6 (by omega)
    have e : roomS S = giveTo (fun _ => 1) 6 (giveTo (fR S) 6 S) := rfl
    rw [e, h2]
    omega
theorem rankS_left {rk : Nat → Int} (hr : ∀ k, k < 6 → 0 ≤ rk k ∧ rk k ≤ 99) {S : sS} (hS : sOK S) (hen : enR S) : (rankS rk S).1 = 0 := by
  have hok : sOK (rankS rk S) := (rankS_ok hr hS 6).2
  have h1 : enR (rankS rk S) := rankS_cl giveS_en hr hen hS 6
  have h2 : (rankS rk S).1 ≤ sumN (rankS rk S).2.1 6 := h1
  rw [rankS_rT hr hS] at h2 hok ⊢
  refine Classical.byContradiction fun hne => ?_
  have hz : ∀ k, k < 6 → (rT rk S 600).2.1 k = 0 := fun k hk => by
    rcases rT_full hr hS 600 k hk (by have := (pl_mod hr hk).2.2.2.2; omega) with h | h
    · exact h
    · exact absurd h hne
  have h3 : sumN (rT rk S 600).2.1 6 = 0 := by
    show ((((((0 : Int) + (rT rk S 600).2.1 0) + (rT rk S 600).2.1 1) + (rT rk S 600).2.1 2) + (rT rk S 600).2.1 3) + (rT rk S 600).2.1 4) + (rT rk S 600).2.1 5 = 0
    rw [hz 0 (by omega), hz 1 (by omega), hz 2 (by omega), hz 3 (by omega), hz 4 (by omega), hz 5 (by omega)]
    rfl
  have := hok.1
  omega
theorem shareS_left {ru : Int} {sh rk : Nat → Int} (hsh : ∀ k, k < 6 → 0 ≤ sh k ∧ sh k ≤ 100) (hr : ∀ k, k < 6 → 0 ≤ rk k ∧ rk k ≤ 99) {S : sS} (hS : sOK S) (hen : enR S) : (shareS ru sh rk S).1 = 0 := by
  unfold shareS
  split
  · exact eqS_left (shS_ok hsh hS) (shS_cl giveS_en hsh hen hS)
  · split
    · exact roomS_left hS hen
    · split
      · exact rankS_left hr hS hen
      · exact eqS_left hS hen
theorem shT_sum {ru : Int} {t : Nat → Int} (ht : tOK t) {am : Int} {S : sS} (h : sOK S) (ha : 0 ≤ am) (hen : am ≤ sumN S.2.1 6) : sumN (shT ru t am S).2.2 6 = am := by
  have hb := sum_b h
  have h0 : sOK (am, S.2.1, fun _ => 0) := ⟨⟨ha, by show am ≤ 30000; omega⟩, h.2⟩
  have h1 : (shT ru t am S).1 = 0 := shareS_left (tOK_sh ht) (tOK_rk ht) h0 hen
  have h2 := shareS_cl (ru := ru) (P := fun S => S.1 + sumN S.2.2 6 = am) giveS_tot (tOK_sh ht) (tOK_rk ht) (S := (am, S.2.1, fun _ => 0)) (by show am + ((((((0 : Int) + 0) + 0) + 0) + 0) + 0 + 0) = am; omega) h0
  have h3 : (shT ru t am S).1 + sumN (shT ru t am S).2.2 6 = am := h2
  omega
theorem sumN_add (F G : Nat → Int) : ∀ n : Nat, sumN (fun m => F m + G m) n = sumN F n + sumN G n
  | 0 => rfl
  | n + 1 => by
    show sumN (fun m => F m + G m) n + (F n + G n) = sumN F n + F n + (sumN G n + G n)
    rw [sumN_add F G n]; omega
theorem sumN_ex {F G : Nat → Int} : ∀ n : Nat, (∀ k, k < n → F k = G k) → sumN F n = sumN G n
  | 0, _ => rfl
  | n + 1, h => by
    show sumN F n + F n = sumN G n + G n
    rw [sumN_ex n (fun k hk => h k (by omega)), h n (by omega)]
theorem sumN_z {F : Nat → Int} {n : Nat} : ∀ d : Nat, (∀ k, n ≤ k → k < n + d → F k = 0) → sumN F (n + d) = sumN F n
  | 0, _ => rfl
  | d + 1, h => by
    show sumN F (n + d) + F (n + d) = _
    rw [sumN_z d (fun k h1 h2 => h k h1 (by omega)), h (n + d) (by omega) (by omega), Int.add_zero]
theorem sumN_n6 {F : Nat → Int} {n : Nat} (hn : n ≤ 6) (h : ∀ k, n ≤ k → k < 6 → F k = 0) : sumN F 6 = sumN F n := by
  have := sumN_z (F := F) (n := n) (6 - n) (fun k h1 h2 => h k h1 (by omega))
  rw [show n + (6 - n) = 6 by omega] at this
  exact this
theorem sumN_le {F G : Nat → Int} : ∀ n : Nat, (∀ k, k < n → F k ≤ G k) → sumN F n ≤ sumN G n
  | 0, _ => Int.le_refl _
  | n + 1, h => by
    have h1 := sumN_le (F := F) (G := G) n (fun k hk => h k (by omega))
    have h2 := h n (by omega)
    show sumN F n + F n ≤ sumN G n + G n
    omega
theorem shT_rooms {ru : Int} {t : Nat → Int} (ht : tOK t) {am : Int} {S : sS} (h : sOK S) (ha : 0 ≤ am) (hen : am ≤ sumN S.2.1 6) : sumN (shT ru t am S).2.1 6 = sumN S.2.1 6 - am := by
  have hb := sum_b h
  have h1 := shT_sum (ru := ru) ht h ha hen
  have h2 : sumN (fun m => (shT ru t am S).2.1 m + (shT ru t am S).2.2 m) 6 = sumN S.2.1 6 := sumN_ex 6 (fun k hk => (shT_in ht h ⟨ha, by omega⟩ k hk).2)
  rw [sumN_add] at h2
  omega
/-! the closing's amounts -/
section CLO
variable {g u t : Nat → Int} {cb : Int}
theorem sur_ok (hg : rdOK g) (hu : rdOK u) : sOK (0, surF g u, fun _ => 0) := ⟨⟨Int.le_refl 0, by show (0 : Int) ≤ 30000; decide⟩, fun k hk => by
  have := hg k hk
  have := hu k hk
  show 0 ≤ g k - min (g k) (u k) ∧ g k - min (g k) (u k) ≤ 5000
  omega⟩
theorem nee_ok (hg : rdOK g) (hu : rdOK u) : sOK (0, neeF g u, fun _ => 0) := ⟨⟨Int.le_refl 0, by show (0 : Int) ≤ 30000; decide⟩, fun k hk => by
  have := hg k hk
  have := hu k hk
  show 0 ≤ u k - min (g k) (u k) ∧ u k - min (g k) (u k) ≤ 5000
  omega⟩
theorem bet_b (hg : rdOK g) (hu : rdOK u) : 0 ≤ betW g u ∧ betW g u ≤ 30000 ∧ betW g u ≤ sumN (surF g u) 6 ∧ betW g u ≤ sumN (neeF g u) 6 ∧ (betW g u = sumN (surF g u) 6 ∨ betW g u = sumN (neeF g u) 6) := by
  have h1 : 0 ≤ sumN (surF g u) 6 ∧ sumN (surF g u) 6 ≤ 30000 := sum_b (S := (0, surF g u, fun _ => 0)) (sur_ok hg hu)
  have h2 : 0 ≤ sumN (neeF g u) 6 ∧ sumN (neeF g u) 6 ≤ 30000 := sum_b (S := (0, neeF g u, fun _ => 0)) (nee_ok hg hu)
  unfold betW
  omega
theorem cA1_ok (hg : rdOK g) (hu : rdOK u) (ht : tOK t) : sOK (cA1 g u t) := by
  have := bet_b hg hu
  exact shT_ok (S := (0, surF g u, fun _ => 0)) ht (sur_ok hg hu) (by omega)
theorem cB1_ok (hg : rdOK g) (hu : rdOK u) (ht : tOK t) : sOK (cB1 g u t) := by
  have := bet_b hg hu
  exact shT_ok (S := (0, neeF g u, fun _ => 0)) ht (nee_ok hg hu) (by omega)
theorem chg_b (ht : tOK t) (hc : 0 ≤ cb ∧ cb ≤ t 4) {S : sS} (h : sOK S) : 0 ≤ chg t cb S ∧ chg t cb S ≤ sumN S.2.1 6 ∧ chg t cb S ≤ 5000 := by
  have b1 := sum_b h
  have b3 := mostC_b ht hc
  unfold chg
  omega
theorem dis_b (ht : tOK t) (hc : 0 ≤ cb ∧ cb ≤ t 4) {S : sS} (h : sOK S) : 0 ≤ dis t cb S ∧ dis t cb S ≤ sumN S.2.1 6 ∧ dis t cb S ≤ 5000 := by
  have b1 := sum_b h
  obtain ⟨_, _, _, _, h4, h5, h6, _⟩ := ht
  unfold dis
  omega
theorem cA2_ok (hg : rdOK g) (hu : rdOK u) (ht : tOK t) (hc : 0 ≤ cb ∧ cb ≤ t 4) : sOK (cA2 g u t cb) := by
  have h := cA1_ok hg hu ht
  have := chg_b ht hc h
  exact shT_ok ht h (by omega)
theorem cB2_ok (hg : rdOK g) (hu : rdOK u) (ht : tOK t) (hc : 0 ≤ cb ∧ cb ≤ t 4) : sOK (cB2 g u t cb) := by
  have h := cB1_ok hg hu ht
  have := dis_b ht hc h
  exact shT_ok ht h (by omega)
theorem sums (hg : rdOK g) (hu : rdOK u) (ht : tOK t) (hc : 0 ≤ cb ∧ cb ≤ t 4) : sumN (cA1 g u t).2.2 6 = betW g u ∧ sumN (cB1 g u t).2.2 6 = betW g u ∧ sumN (cA2 g u t cb).2.2 6 = chg t cb (cA1 g u t) ∧ sumN (cB2 g u t cb).2.2 6 = dis t cb (cB1 g u t) ∧ (chg t cb (cA1 g u t) = 0 ∨ dis t cb (cB1 g u t) = 0) := by
  have hb := bet_b hg hu
  have a1 := cA1_ok hg hu ht
  have b1 := cB1_ok hg hu ht
  have hch := chg_b ht hc a1
  have hdi := dis_b ht hc b1
  have r1 : sumN (cA1 g u t).2.1 6 = sumN (surF g u) 6 - betW g u := shT_rooms (S := (0, surF g u, fun _ => 0)) ht (sur_ok hg hu) hb.1 hb.2.2.1
  have r2 : sumN (cB1 g u t).2.1 6 = sumN (neeF g u) 6 - betW g u := shT_rooms (S := (0, neeF g u, fun _ => 0)) ht (nee_ok hg hu) hb.1 hb.2.2.2.1
  refine ⟨shT_sum (S := (0, surF g u, fun _ => 0)) ht (sur_ok hg hu) hb.1 hb.2.2.1, shT_sum (S := (0, neeF g u, fun _ => 0)) ht (nee_ok hg hu) hb.1 hb.2.2.2.1, shT_sum ht a1 hch.1 hch.2.1, shT_sum ht b1 hdi.1 hdi.2.1, ?_⟩
  omega
/-- a member's flows -/
theorem mem_fl (hg : rdOK g) (hu : rdOK u) (ht : tOK t) (hc : 0 ≤ cb ∧ cb ≤ t 4) {m : Nat} (hm : m < 6) :
    ((cB1 g u t).2.2 m + (cB2 g u t cb).2.2 m + (cB2 g u t cb).2.1 m = neeF g u m ∧ (cA1 g u t).2.2 m + (cA2 g u t cb).2.2 m + (cA2 g u t cb).2.1 m = surF g u m) ∧ (0 ≤ (cB1 g u t).2.2 m ∧ 0 ≤ (cB2 g u t cb).2.2 m ∧ 0 ≤ (cB2 g u t cb).2.1 m) ∧ (0 ≤ (cA1 g u t).2.2 m ∧ 0 ≤ (cA2 g u t cb).2.2 m ∧ 0 ≤ (cA2 g u t cb).2.1 m) := by
  have hb := bet_b hg hu
  have a1 := cA1_ok hg hu ht
  have b1 := cB1_ok hg hu ht
  have hch := chg_b ht hc a1
  have hdi := dis_b ht hc b1
  have i1 : 0 ≤ (cA1 g u t).2.2 m ∧ (cA1 g u t).2.1 m + (cA1 g u t).2.2 m = surF g u m := shT_in (S := (0, surF g u, fun _ => 0)) ht (sur_ok hg hu) (by omega) m hm
  have i2 : 0 ≤ (cB1 g u t).2.2 m ∧ (cB1 g u t).2.1 m + (cB1 g u t).2.2 m = neeF g u m := shT_in (S := (0, neeF g u, fun _ => 0)) ht (nee_ok hg hu) (by omega) m hm
  have i3 : 0 ≤ (cA2 g u t cb).2.2 m ∧ (cA2 g u t cb).2.1 m + (cA2 g u t cb).2.2 m = (cA1 g u t).2.1 m := shT_in ht a1 (by omega) m hm
  have i4 : 0 ≤ (cB2 g u t cb).2.2 m ∧ (cB2 g u t cb).2.1 m + (cB2 g u t cb).2.2 m = (cB1 g u t).2.1 m := shT_in ht b1 (by omega) m hm
  have o3 := (cA2_ok hg hu ht hc).2 m hm
  have o4 := (cB2_ok hg hu ht hc).2 m hm
  omega
end CLO
