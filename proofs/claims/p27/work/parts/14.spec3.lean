theorem roomS_ok {S : sS} (h : sOK S) : sOK (roomS S) := by
  refine giveTo_ok (giveTo_ok h 6 (by omega) (fun k hk => divN (Int.mul_nonneg h.1.1 (h.2 k hk).1) ?_)) 6 (by omega) (fun _ _ => by omega)
  exact (sumN_b (F := S.2.1) (B := 5000) 6 h.2).1
theorem eqS_ok {S : sS} (h : sOK S) : sOK (eqS S) := iter_ok (fun _ h => eqStep_ok h) h NR
theorem shS_ok {sh : Nat → Int} (hs : ∀ k, k < 6 → 0 ≤ sh k ∧ sh k ≤ 100) {S : sS} (h : sOK S) : sOK (shS sh S) := iter_ok (fun _ h => shStep_ok hs h) h NR
theorem shareS_ok {ru : Int} {sh rk : Nat → Int} (hs : ∀ k, k < 6 → 0 ≤ sh k ∧ sh k ≤ 100) (hr : ∀ k, k < 6 → 0 ≤ rk k ∧ rk k ≤ 99) {S : sS} (h : sOK S) : sOK (shareS ru sh rk S) := by
  unfold shareS
  split
  · exact eqS_ok (shS_ok hs h)
  · split
    · exact roomS_ok h
    · split
      · exact (rankS_ok hr h 6).2
      · exact eqS_ok h
/-- the first j places of X, the others of Y -/
def cp (X Y : Nat → Int) (j : Nat) : Nat → Int := fun k => if k < j then X k else Y k
theorem cp_s (X Y : Nat → Int) (j : Nat) : up (cp X Y j) j (X j) = cp X Y (j + 1) := by
  funext k
  unfold up cp
  by_cases h : k = j
  · subst h; rw [if_pos rfl, if_pos (by omega)]
  · rw [if_neg h]
    by_cases h2 : k < j
    · rw [if_pos h2, if_pos (by omega)]
    · rw [if_neg h2, if_neg (by omega)]
theorem cp_in {X Y : Nat → Int} {j k : Nat} (h : k < j) : cp X Y j k = X k := if_pos h
def fillN (x R : Nat → Int) : Nat → Nat → Int
  | 0 => R
  | j + 1 => up (fillN x R j) j (x j)
def ownF (g u f : Nat → Int) : Nat → Nat → Int
  | 0 => f
  | j + 1 => up (ownF g u f j) (j * 8 + 0) (min (g j) (u j))
def keepF (a b : Nat) (P1 P2 f : Nat → Int) : Nat → Nat → Int
  | 0 => f
  | j + 1 => up (up (keepF a b P1 P2 f j) (j * 8 + a) (P1 j)) (j * 8 + b) (P2 j)
def mon (t f : Nat → Int) (m : Nat) : Int := t 3 * (f (m * 8 + 4) + f (m * 8 + 5) - (f (m * 8 + 1) + f (m * 8 + 2))) + t 2 * f (m * 8 + 6) - t 1 * f (m * 8 + 3)
def gridF (t R1 R2 f : Nat → Int) : Nat → Nat → Int
  | 0 => f
  | j + 1 => up (up (up (gridF t R1 R2 f j) (j * 8 + 6) (R1 j)) (j * 8 + 3) (R2 j)) (j * 8 + 7) (mon t (up (up (gridF t R1 R2 f j) (j * 8 + 6) (R1 j)) (j * 8 + 3) (R2 j)) j)
theorem fillN_in {x R : Nat → Int} : ∀ (j k : Nat), k < j → fillN x R j k = x k
  | 0, k, h => by omega
  | j + 1, k, h => by
    unfold fillN up
    by_cases hk : k = j
    · subst hk; rw [if_pos rfl]
    · rw [if_neg hk]; exact fillN_in j k (by omega)
theorem fillN_out {x R : Nat → Int} : ∀ (j k : Nat), j ≤ k → fillN x R j k = R k
  | 0, k, h => rfl
  | j + 1, k, h => by
    unfold fillN up
    rw [if_neg (by omega)]; exact fillN_out j k (by omega)
/-- the most that the battery takes -/
def mostC (t : Nat → Int) (cb : Int) : Int := min (t 5) (((t 4 - cb) * 100 + 99) / t 6)
def chg (t : Nat → Int) (cb : Int) (S : sS) : Int := min (sumN S.2.1 6) (mostC t cb)
def dis (t : Nat → Int) (cb : Int) (S : sS) : Int := min (sumN S.2.1 6) (min (t 5) cb)
abbrev tsh (t : Nat → Int) : Nat → Int := fun i => t (7 + i)
abbrev trk (t : Nat → Int) : Nat → Int := fun i => t (13 + i)
noncomputable abbrev shT (ru : Int) (t : Nat → Int) (am : Int) (S : sS) : sS := shareS ru (fun i => t (7 + i)) (fun i => t (13 + i)) (am, S.2.1, fun _ => 0)
/-! closing a slot: the sides and the flows through its four steps -/
def cl0 (g u : Nat → Int) (S1 S2 : sS) (f : Nat → Int) : sS × sS × (Nat → Int) := ((S1.1, fillN (fun m => g m - min (g m) (u m)) S1.2.1 6, S1.2.2), (S2.1, fillN (fun m => u m - min (g m) (u m)) S2.2.1 6, S2.2.2), ownF g u f 6)
noncomputable def cl1 (t : Nat → Int) (Z : sS × sS × (Nat → Int)) : sS × sS × (Nat → Int) :=
  (shT 2 t (min (sumN Z.1.2.1 6) (sumN Z.2.1.2.1 6)) Z.1, shT (t 0) t (min (sumN Z.1.2.1 6) (sumN Z.2.1.2.1 6)) Z.2.1, keepF 4 1 (shT 2 t (min (sumN Z.1.2.1 6) (sumN Z.2.1.2.1 6)) Z.1).2.2 (shT (t 0) t (min (sumN Z.1.2.1 6) (sumN Z.2.1.2.1 6)) Z.2.1).2.2 Z.2.2 6)
noncomputable def cl2 (t : Nat → Int) (cb : Int) (Z : sS × sS × (Nat → Int)) : sS × sS × (Nat → Int) :=
  (shT 2 t (chg t cb Z.1) Z.1, shT (t 0) t (dis t cb Z.2.1) Z.2.1, keepF 5 2 (shT 2 t (chg t cb Z.1) Z.1).2.2 (shT (t 0) t (dis t cb Z.2.1) Z.2.1).2.2 Z.2.2 6)
noncomputable def aft (t : Nat → Int) (cb : Int) (Z : sS × sS × (Nat → Int)) : Int := cb + chg t cb Z.1 * t 6 / 100 - dis t cb Z.2.1
def cl3 (t : Nat → Int) (Z : sS × sS × (Nat → Int)) : sS × sS × (Nat → Int) := (Z.1, Z.2.1, gridF t Z.1.2.1 Z.2.1.2.1 Z.2.2 6)
def rdOK (g : Nat → Int) : Prop := ∀ k, k < 6 → 0 ≤ g k ∧ g k ≤ 5000
theorem cl0_ok {g u : Nat → Int} {S1 S2 : sS} {f : Nat → Int} (hg : rdOK g) (hu : rdOK u) (h1 : sOK S1) (h2 : sOK S2) : sOK (cl0 g u S1 S2 f).1 ∧ sOK (cl0 g u S1 S2 f).2.1 := by
  refine ⟨⟨h1.1, fun k hk => ?_⟩, ⟨h2.1, fun k hk => ?_⟩⟩
  · show 0 ≤ fillN _ _ 6 k ∧ fillN _ _ 6 k ≤ 5000
    rw [fillN_in 6 k hk]
    have := hg k hk
    have := hu k hk
    omega
  · show 0 ≤ fillN _ _ 6 k ∧ fillN _ _ 6 k ≤ 5000
    rw [fillN_in 6 k hk]
    have := hg k hk
    have := hu k hk
    omega
theorem sum_b {S : sS} (h : sOK S) : 0 ≤ sumN S.2.1 6 ∧ sumN S.2.1 6 ≤ 30000 := by
  have := sumN_b (F := S.2.1) (B := 5000) 6 h.2
  omega
theorem shT_ok {ru : Int} {t : Nat → Int} (ht : tOK t) {am : Int} {S : sS} (h : sOK S) (ha : 0 ≤ am ∧ am ≤ 30000) : sOK (shT ru t am S) := shareS_ok (tOK_sh ht) (tOK_rk ht) ⟨ha, h.2⟩
theorem cl1_ok {t : Nat → Int} (ht : tOK t) {Z : sS × sS × (Nat → Int)} (h : sOK Z.1 ∧ sOK Z.2.1) : sOK (cl1 t Z).1 ∧ sOK (cl1 t Z).2.1 := by
  have b1 := sum_b h.1
  have b2 := sum_b h.2
  exact ⟨shT_ok ht h.1 (by omega), shT_ok ht h.2 (by omega)⟩
theorem mostC_b {t : Nat → Int} {cb : Int} (ht : tOK t) (hc : 0 ≤ cb ∧ cb ≤ t 4) : 0 ≤ mostC t cb ∧ mostC t cb ≤ 5000 := by
  obtain ⟨_, _, _, _, h4, h5, h6, _⟩ := ht
  have := Int.ediv_nonneg (a := (t 4 - cb) * 100 + 99) (b := t 6) (by omega) (by omega)
  unfold mostC
  omega
theorem cl2_b {t : Nat → Int} {cb : Int} (ht : tOK t) (hc : 0 ≤ cb ∧ cb ≤ t 4) {Z : sS × sS × (Nat → Int)} (h : sOK Z.1 ∧ sOK Z.2.1) : (0 ≤ chg t cb Z.1 ∧ chg t cb Z.1 ≤ 5000) ∧ 0 ≤ dis t cb Z.2.1 ∧ dis t cb Z.2.1 ≤ 5000 := by
  have b1 := sum_b h.1
  have b2 := sum_b h.2
  have b3 := mostC_b ht hc
  obtain ⟨_, _, _, _, h4, h5, h6, _⟩ := ht
  unfold chg dis
  omega
theorem cl2_ok {t : Nat → Int} {cb : Int} (ht : tOK t) (hc : 0 ≤ cb ∧ cb ≤ t 4) {Z : sS × sS × (Nat → Int)} (h : sOK Z.1 ∧ sOK Z.2.1) : sOK (cl2 t cb Z).1 ∧ sOK (cl2 t cb Z).2.1 := by
  have b := cl2_b ht hc h
  exact ⟨shT_ok ht h.1 (by omega), shT_ok ht h.2 (by omega)⟩
/-- the whole closing -/
noncomputable def clZ (g u t : Nat → Int) (cb : Int) (S1 S2 : sS) (f : Nat → Int) : sS × sS × (Nat → Int) := cl3 t (cl2 t cb (cl1 t (cl0 g u S1 S2 f)))
noncomputable def clA (g u t : Nat → Int) (cb : Int) (S1 S2 : sS) (f : Nat → Int) : Int := aft t cb (cl1 t (cl0 g u S1 S2 f))
theorem clZ_ok {g u t : Nat → Int} {cb : Int} {S1 S2 : sS} {f : Nat → Int} (hg : rdOK g) (hu : rdOK u) (ht : tOK t) (hc : 0 ≤ cb ∧ cb ≤ t 4) (h1 : sOK S1) (h2 : sOK S2) : sOK (clZ g u t cb S1 S2 f).1 ∧ sOK (clZ g u t cb S1 S2 f).2.1 :=
by
  have h := cl2_ok ht hc (cl1_ok ht (cl0_ok (f := f) hg hu h1 h2))
  unfold clZ cl3
  exact h
