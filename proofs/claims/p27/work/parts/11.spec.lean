/-! sharing, as numbers: a side is what is left, the rooms, the parts -/
abbrev sS : Type := Int × (Nat → Int) × (Nat → Int)
def iter {α : Type} (f : α → α) : Nat → α → α
  | 0, S => S
  | n + 1, S => f (iter f n S)
def sumN (F : Nat → Int) : Nat → Int
  | 0 => 0
  | k + 1 => sumN F k + F k
def giveS (m : Nat) (a : Int) (S : sS) : sS := (S.1 - min a (min (S.2.1 m) S.1), up S.2.1 m (S.2.1 m - min a (min (S.2.1 m) S.1)), up S.2.2 m (S.2.2 m + min a (min (S.2.1 m) S.1)))
def giveTo (f : Nat → Int) : Nat → sS → sS
  | 0, S => S
  | k + 1, S => giveS k (f k) (giveTo f k S)
def cntN (R : Nat → Int) : Nat → Int
  | 0 => 0
  | k + 1 => if 0 < R k then cntN R k + 1 else cntN R k
def ssumN (sh R : Nat → Int) : Nat → Int
  | 0 => 0
  | k + 1 => if 0 < R k then ssumN sh R k + sh k else ssumN sh R k
def giveOne (sh : Nat → Int) : Nat → sS → sS
  | 0, S => S
  | k + 1, S => if 0 < sh k then giveS k 1 (giveOne sh k S) else giveOne sh k S
def eqStep (S : sS) : sS := giveTo (fun _ => max 1 (S.1 / cntN S.2.1 6)) 6 S
/-- the number 1000, which nothing counts out -/
noncomputable def NR : Nat := Classical.choose (⟨1000, rfl⟩ : ∃ n : Nat, n = 1000)
theorem NR_eq : NR = 1000 := Classical.choose_spec (⟨1000, rfl⟩ : ∃ n : Nat, n = 1000)
noncomputable def eqS (S : sS) : sS := iter eqStep NR S
def shStep (sh : Nat → Int) (S : sS) : sS := if (giveTo (fun m => S.1 * sh m / ssumN sh S.2.1 6) 6 S).1 = S.1 then giveOne sh 6 (giveTo (fun m => S.1 * sh m / ssumN sh S.2.1 6) 6 S) else giveTo (fun m => S.1 * sh m / ssumN sh S.2.1 6) 6 S
noncomputable def shS (sh : Nat → Int) (S : sS) : sS := iter (shStep sh) NR S
def roomS (S : sS) : sS := giveTo (fun _ => 1) 6 (giveTo (fun m => S.1 * S.2.1 m / sumN S.2.1 6) 6 S)
def npTo (rk : Nat → Int) (last : Int) : Nat → Int
  | 0 => 600
  | k + 1 => if last < rk k * 6 + k ∧ rk k * 6 + k < npTo rk last k then rk k * 6 + k else npTo rk last k
def rkStep (rk : Nat → Int) (Z : Int × sS) : Int × sS := (npTo rk Z.1 6, giveS (npTo rk Z.1 6 % 6).toNat Z.2.1 Z.2)
def rankS (rk : Nat → Int) (S : sS) : sS := (iter (rkStep rk) 6 (-1, S)).2
noncomputable def shareS (rule : Int) (sh rk : Nat → Int) (S : sS) : sS := if rule = 1 then eqS (shS sh S) else if rule = 2 then roomS S else if rule = 3 then rankS rk S else eqS S
def sOK (S : sS) : Prop := (0 ≤ S.1 ∧ S.1 ≤ 30000) ∧ ∀ k, k < 6 → 0 ≤ S.2.1 k ∧ S.2.1 k ≤ 5000
theorem up_self (F : Nat → Int) (m : Nat) : up F m (F m) = F := by
  funext k
  unfold up
  split
  · subst_vars; rfl
  · rfl
theorem giveS_ok {S : sS} {m : Nat} {a : Int} (h : sOK S) (hm : m < 6) (ha : 0 ≤ a) : sOK (giveS m a S) := by
  obtain ⟨⟨h1, h2⟩, h3⟩ := h
  have hm1 := h3 m hm
  refine ⟨⟨?_, ?_⟩, fun k hk => ?_⟩
  · show 0 ≤ S.1 - min a (min (S.2.1 m) S.1); omega
  · show S.1 - min a (min (S.2.1 m) S.1) ≤ 30000; omega
  · show 0 ≤ up S.2.1 m _ k ∧ up S.2.1 m _ k ≤ 5000
    by_cases hkm : k = m
    · subst hkm; rw [up_s]; omega
    · rw [up_n hkm]; exact h3 k hk
theorem giveTo_ok {f : Nat → Int} {S : sS} (h : sOK S) : ∀ (n : Nat), n ≤ 6 → (∀ k, k < n → 0 ≤ f k) → sOK (giveTo f n S)
  | 0, _, _ => h
  | n + 1, hn, hf => giveS_ok (giveTo_ok h n (by omega) (fun k hk => hf k (by omega))) (by omega) (hf n (by omega))
theorem giveOne_ok {sh : Nat → Int} {S : sS} (h : sOK S) : ∀ (n : Nat), n ≤ 6 → sOK (giveOne sh n S)
  | 0, _ => h
  | n + 1, hn => by
    unfold giveOne
    split
    · exact giveS_ok (giveOne_ok h n (by omega)) (by omega) (by omega)
    · exact giveOne_ok h n (by omega)
/-- nothing given: nothing changes -/
theorem giveS_0 {S : sS} {m : Nat} {a : Int} (h : min a (min (S.2.1 m) S.1) = 0) : giveS m a S = S := by
  unfold giveS
  rw [h, Int.sub_zero, Int.sub_zero, Int.add_zero, up_self, up_self]
theorem giveTo_0 {f : Nat → Int} {S : sS} : ∀ (n : Nat), (∀ m, m < n → min (f m) (min (S.2.1 m) S.1) = 0) → giveTo f n S = S
  | 0, _ => rfl
  | n + 1, h => by
    unfold giveTo
    rw [giveTo_0 n (fun m hm => h m (by omega))]
    exact giveS_0 (h n (by omega))
theorem giveOne_0 {sh : Nat → Int} {S : sS} : ∀ (n : Nat), (∀ m, m < n → 0 < sh m → min 1 (min (S.2.1 m) S.1) = 0) → giveOne sh n S = S
  | 0, _ => rfl
  | n + 1, h => by
    unfold giveOne
    rw [giveOne_0 n (fun m hm => h m (by omega))]
    split
    · rename_i hs
      exact giveS_0 (h n (by omega) hs)
    · rfl
/-- a member's room stays until its turn -/
theorem giveTo_room {f : Nat → Int} {S : sS} : ∀ (n k : Nat), n ≤ k → (giveTo f n S).2.1 k = S.2.1 k
  | 0, _, _ => rfl
  | n + 1, k, h => by
    show up (giveTo f n S).2.1 n _ k = _
    rw [up_n (by omega)]
    exact giveTo_room n k (by omega)
theorem cntN_b {R : Nat → Int} : ∀ n : Nat, 0 ≤ cntN R n ∧ cntN R n ≤ n
  | 0 => ⟨Int.le_refl 0, Int.le_refl 0⟩
  | n + 1 => by
    have := cntN_b (R := R) n
    unfold cntN
    split <;> omega
theorem cntN_0 {R : Nat → Int} : ∀ n : Nat, cntN R n = 0 → ∀ k, k < n → R k ≤ 0
  | 0, _, k, hk => by omega
  | n + 1, h, k, hk => by
    have hb := cntN_b (R := R) n
    unfold cntN at h
    split at h
    · omega
    · rcases Nat.lt_or_ge k n with g | g
      · exact cntN_0 n h k g
      · have : k = n := by omega
        subst this
        omega
theorem ssumN_b {sh R : Nat → Int} (hs : ∀ k, k < 6 → 0 ≤ sh k ∧ sh k ≤ 100) : ∀ n : Nat, n ≤ 6 → 0 ≤ ssumN sh R n ∧ ssumN sh R n ≤ 100 * n
  | 0, _ => ⟨Int.le_refl 0, Int.le_refl 0⟩
  | n + 1, h => by
    have := ssumN_b (R := R) hs n (by omega)
    have h2 := hs n (by omega)
    unfold ssumN
    split <;> omega
theorem ssumN_0 {sh R : Nat → Int} (hs : ∀ k, k < 6 → 0 ≤ sh k ∧ sh k ≤ 100) : ∀ n : Nat, n ≤ 6 → ssumN sh R n = 0 → ∀ k, k < n → 0 < R k → sh k = 0
  | 0, _, _, k, hk, _ => by omega
  | n + 1, hn, h, k, hk, hr => by
    have hb := ssumN_b (R := R) hs n (by omega)
    have h2 := hs n (by omega)
    unfold ssumN at h
    split at h
    · rcases Nat.lt_or_ge k n with g | g
      · exact ssumN_0 hs n (by omega) (by omega) k g hr
      · have : k = n := by omega
        subst this
        omega
    · rcases Nat.lt_or_ge k n with g | g
      · exact ssumN_0 hs n (by omega) h k g hr
      · have : k = n := by omega
        subst this
        omega
theorem sumN_b {F : Nat → Int} {B : Int} : ∀ n : Nat, (∀ k, k < n → 0 ≤ F k ∧ F k ≤ B) → 0 ≤ sumN F n ∧ sumN F n ≤ B * n
  | 0, _ => by simp [sumN]
  | n + 1, h => by
    have h1 := sumN_b (F := F) (B := B) n (fun k hk => h k (by omega))
    have h2 := h n (by omega)
    unfold sumN
    have h3 : B * ((n + 1 : Nat) : Int) = B * n + B := by rw [Int.natCast_succ, Int.mul_add, Int.mul_one]
    omega
theorem sumN_mem {F : Nat → Int} : ∀ n : Nat, (∀ k, k < n → 0 ≤ F k) → ∀ k, k < n → F k ≤ sumN F n
  | 0, _, k, hk => by omega
  | n + 1, h, k, hk => by
    have h0 : 0 ≤ sumN F n := by
      clear hk
      induction n with
      | zero => exact Int.le_refl 0
      | succ n ih =>
        have := ih (fun k hk => h k (by omega))
        have h2 := h n (by omega)
        unfold sumN; omega
    have h2 := h n (by omega)
    unfold sumN
    rcases Nat.lt_or_ge k n with g | g
    · have := sumN_mem n (fun k hk => h k (by omega)) k g
      omega
    · have : k = n := by omega
      subst this
      omega
theorem max1_nonneg (z : Int) : 0 ≤ max 1 z := by omega
theorem eqStep_ok {S : sS} (h : sOK S) : sOK (eqStep S) := giveTo_ok h 6 (by omega) (fun k _ => max1_nonneg _)
theorem eqStep_fix {S : sS} (h : sOK S) (h0 : S.1 = 0 ∨ cntN S.2.1 6 = 0) : eqStep S = S := by
  refine giveTo_0 6 (fun m hm => ?_)
  have h1 := h.2 m hm
  have h2 := h.1
  rcases h0 with h0 | h0
  · have := max1_nonneg (S.1 / cntN S.2.1 6)
    have h9 : 0 ≤ max 1 (S.1 / cntN S.2.1 6) := this
    generalize max 1 (S.1 / cntN S.2.1 6) = z at h9 ⊢
    omega
  · have h3 := cntN_0 6 h0 m hm
    have h9 : 0 ≤ max 1 (S.1 / cntN S.2.1 6) := max1_nonneg _
    generalize max 1 (S.1 / cntN S.2.1 6) = z at h9 ⊢
    omega
theorem iter_ok {α : Type} {f : α → α} {P : α → Prop} (hf : ∀ S, P S → P (f S)) {S : α} (h : P S) : ∀ n : Nat, P (iter f n S)
  | 0 => h
  | n + 1 => hf _ (iter_ok hf h n)
theorem iter_fix {α : Type} {f : α → α} {S : α} {n : Nat} (h : f (iter f n S) = iter f n S) : ∀ k : Nat, iter f (n + k) S = iter f n S
  | 0 => rfl
  | k + 1 => by
    show f (iter f (n + k) S) = _
    rw [iter_fix h k, h]
theorem iter_end {α : Type} {f : α → α} {S : α} {n N : Nat} (hn : n ≤ N) (h : f (iter f n S) = iter f n S) : iter f N S = iter f n S := by
  obtain ⟨k, rfl⟩ := Nat.exists_eq_add_of_le hn
  exact iter_fix h k
theorem divN {a b : Int} (ha : 0 ≤ a) (hb : 0 ≤ b) : 0 ≤ a / b := Int.ediv_nonneg ha hb
theorem shStep_ok {sh : Nat → Int} (hs : ∀ k, k < 6 → 0 ≤ sh k ∧ sh k ≤ 100) {S : sS} (h : sOK S) : sOK (shStep sh S) := by
  have h1 : sOK (giveTo (fun m => S.1 * sh m / ssumN sh S.2.1 6) 6 S) := giveTo_ok h 6 (by omega) (fun k hk => divN (Int.mul_nonneg h.1.1 (hs k hk).1) (ssumN_b hs 6 (by omega)).1)
  unfold shStep
  split
  · exact giveOne_ok h1 6 (by omega)
  · exact h1
theorem shStep_fix {sh : Nat → Int} (hs : ∀ k, k < 6 → 0 ≤ sh k ∧ sh k ≤ 100) {S : sS} (h : sOK S) (h0 : S.1 = 0 ∨ ssumN sh S.2.1 6 = 0) : shStep sh S = S := by
  have h1 : giveTo (fun m => S.1 * sh m / ssumN sh S.2.1 6) 6 S = S := by
    refine giveTo_0 6 (fun m hm => ?_)
    have h1 := h.2 m hm
    have h2 := h.1
    have h3 : S.1 * sh m / ssumN sh S.2.1 6 = 0 := by
      rcases h0 with h0 | h0
      · rw [h0, Int.zero_mul, Int.zero_ediv]
      · rw [h0, Int.ediv_zero]
    show min (S.1 * sh m / ssumN sh S.2.1 6) _ = 0
    rw [h3]; omega
  unfold shStep
  rw [h1, if_pos rfl]
  refine giveOne_0 6 (fun m hm hsm => ?_)
  have h1 := h.2 m hm
  have h2 := h.1
  rcases h0 with h0 | h0
  · omega
  · have h4 : ¬ 0 < S.2.1 m := fun g => by
      have := ssumN_0 hs 6 (by omega) h0 m hm g
      omega
    omega
theorem roomS_fix {S : sS} (h : sOK S) (h0 : sumN S.2.1 6 = 0) : roomS S = S := by
  have hz : ∀ m, m < 6 → S.2.1 m = 0 := fun m hm => by
    have h1 := h.2 m hm
    have h2 := sumN_mem (F := S.2.1) 6 (fun k hk => (h.2 k hk).1) m hm
    omega
  have h1 : giveTo (fun m => S.1 * S.2.1 m / sumN S.2.1 6) 6 S = S := by
    refine giveTo_0 6 (fun m hm => ?_)
    have h1 := hz m hm
    have h2 := h.1
    show min (S.1 * S.2.1 m / sumN S.2.1 6) _ = 0
    rw [h0, Int.ediv_zero]; omega
  unfold roomS
  rw [h1]
  refine giveTo_0 6 (fun m hm => ?_)
  have h1 := hz m hm
  have h2 := h.1
  omega
theorem npTo_b {rk : Nat → Int} {last : Int} (hr : ∀ k, k < 6 → 0 ≤ rk k ∧ rk k ≤ 99) (hl : -1 ≤ last) : ∀ n : Nat, n ≤ 6 → 0 ≤ npTo rk last n ∧ npTo rk last n ≤ 600
  | 0, _ => by unfold npTo; omega
  | n + 1, h => by
    have h1 := npTo_b hr hl n (by omega)
    have h2 := hr n (by omega)
    unfold npTo
    split <;> omega
