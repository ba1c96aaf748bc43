/-! what every giving keeps, a sharing keeps -/
section CLOSED
variable {P : sS → Prop} (hP : ∀ (S : sS) (m : Nat) (a : Int), P S → sOK S → m < 6 → 0 ≤ a → P (giveS m a S))
theorem giveTo_cl (hP : ∀ (S : sS) (m : Nat) (a : Int), P S → sOK S → m < 6 → 0 ≤ a → P (giveS m a S)) {f : Nat → Int} {S : sS} (h : P S) (hs : sOK S) : ∀ (n : Nat), n ≤ 6 → (∀ k, k < n → 0 ≤ f k) → P (giveTo f n S)
  | 0, _, _ => h
  | n + 1, hn, hf => hP _ _ _ (giveTo_cl hP h hs n (by omega) (fun k hk => hf k (by omega))) (giveTo_ok hs n (by omega) (fun k hk => hf k (by omega))) (by omega) (hf n (by omega))
theorem giveOne_cl (hP : ∀ (S : sS) (m : Nat) (a : Int), P S → sOK S → m < 6 → 0 ≤ a → P (giveS m a S)) {sh : Nat → Int} {S : sS} (h : P S) (hs : sOK S) : ∀ (n : Nat), n ≤ 6 → P (giveOne sh n S)
  | 0, _ => h
  | n + 1, hn => by
    unfold giveOne
    split
    · exact hP _ _ _ (giveOne_cl hP h hs n (by omega)) (giveOne_ok hs n (by omega)) (by omega) (by omega)
    · exact giveOne_cl hP h hs n (by omega)
theorem iter_cl {f : sS → sS} (hf : ∀ S, P S → sOK S → P (f S)) (hf2 : ∀ S, sOK S → sOK (f S)) {S : sS} (h : P S) (hs : sOK S) : ∀ n : Nat, P (iter f n S)
  | 0 => h
  | n + 1 => hf _ (iter_cl hf hf2 h hs n) (iter_ok hf2 hs n)
theorem eqS_cl (hP : ∀ (S : sS) (m : Nat) (a : Int), P S → sOK S → m < 6 → 0 ≤ a → P (giveS m a S)) {S : sS} (h : P S) (hs : sOK S) : P (eqS S) :=
  iter_cl (fun S h hs => giveTo_cl hP h hs 6 (by omega) (fun _ _ => max1_nonneg _)) (fun _ h => eqStep_ok h) h hs NR
theorem shStep_cl (hP : ∀ (S : sS) (m : Nat) (a : Int), P S → sOK S → m < 6 → 0 ≤ a → P (giveS m a S)) {sh : Nat → Int} (hsh : ∀ k, k < 6 → 0 ≤ sh k ∧ sh k ≤ 100) {S : sS} (h : P S) (hs : sOK S) : P (shStep sh S) := by
  have hf : ∀ k, k < 6 → 0 ≤ (fun m => S.1 * sh m / ssumN sh S.2.1 6) k := fun k hk => divN (Int.mul_nonneg hs.1.1 (hsh k hk).1) (ssumN_b hsh 6 (by omega)).1
  have h1 := giveTo_cl hP h hs 6 (by omega) hf
  have h2 := giveTo_ok hs 6 (by omega) hf
  unfold shStep
  split
  · exact giveOne_cl hP h1 h2 6 (by omega)
  · exact h1
theorem shS_cl (hP : ∀ (S : sS) (m : Nat) (a : Int), P S → sOK S → m < 6 → 0 ≤ a → P (giveS m a S)) {sh : Nat → Int} (hsh : ∀ k, k < 6 → 0 ≤ sh k ∧ sh k ≤ 100) {S : sS} (h : P S) (hs : sOK S) : P (shS sh S) :=
  iter_cl (fun S h hs => shStep_cl hP hsh h hs) (fun _ h => shStep_ok hsh h) h hs NR
theorem roomS_cl (hP : ∀ (S : sS) (m : Nat) (a : Int), P S → sOK S → m < 6 → 0 ≤ a → P (giveS m a S)) {S : sS} (h : P S) (hs : sOK S) : P (roomS S) := by
  have hf : ∀ k, k < 6 → 0 ≤ (fun m => S.1 * S.2.1 m / sumN S.2.1 6) k := fun k hk => divN (Int.mul_nonneg hs.1.1 (hs.2 k hk).1) (sumN_b (F := S.2.1) (B := 5000) 6 hs.2).1
  exact giveTo_cl hP (giveTo_cl hP h hs 6 (by omega) hf) (giveTo_ok hs 6 (by omega) hf) 6 (by omega) (fun _ _ => by omega)
theorem rankS_cl (hP : ∀ (S : sS) (m : Nat) (a : Int), P S → sOK S → m < 6 → 0 ≤ a → P (giveS m a S)) {rk : Nat → Int} (hr : ∀ k, k < 6 → 0 ≤ rk k ∧ rk k ≤ 99) {S : sS} (h : P S) (hs : sOK S) : ∀ n : Nat, P (iter (rkStep rk) n (-1, S)).2
  | 0 => h
  | n + 1 => by
    obtain ⟨h1, h2⟩ := rankS_ok hr hs n
    have h3 := npTo_b hr h1.1 6 (by omega)
    exact hP _ _ _ (rankS_cl hP hr h hs n) h2 (by omega) h2.1.1
theorem shareS_cl (hP : ∀ (S : sS) (m : Nat) (a : Int), P S → sOK S → m < 6 → 0 ≤ a → P (giveS m a S)) {ru : Int} {sh rk : Nat → Int} (hsh : ∀ k, k < 6 → 0 ≤ sh k ∧ sh k ≤ 100) (hr : ∀ k, k < 6 → 0 ≤ rk k ∧ rk k ≤ 99) {S : sS} (h : P S) (hs : sOK S) : P (shareS ru sh rk S) := by
  unfold shareS
  split
  · exact eqS_cl hP (shS_cl hP hsh h hs) (shS_ok hsh hs)
  · split
    · exact roomS_cl hP h hs
    · split
      · exact rankS_cl hP hr h hs 6
      · exact eqS_cl hP h hs
end CLOSED
/-- rooms and parts together stay -/
def sIn (R0 : Nat → Int) (S : sS) : Prop := ∀ k, k < 6 → 0 ≤ S.2.2 k ∧ S.2.1 k + S.2.2 k = R0 k
theorem giveS_in {R0 : Nat → Int} (S : sS) (m : Nat) (a : Int) (h : sIn R0 S) (hs : sOK S) (hm : m < 6) (ha : 0 ≤ a) : sIn R0 (giveS m a S) := by
  intro k hk
  have h1 := h k hk
  have h2 := hs.1
  have h3 := hs.2 m hm
  show 0 ≤ up S.2.2 m _ k ∧ up S.2.1 m _ k + up S.2.2 m _ k = R0 k
  by_cases hkm : k = m
  · subst hkm; rw [up_s, up_s]; omega
  · rw [up_n hkm, up_n hkm]; exact h1
theorem shT_in {ru : Int} {t : Nat → Int} (ht : tOK t) {am : Int} {S : sS} (h : sOK S) (ha : 0 ≤ am ∧ am ≤ 30000) : sIn S.2.1 (shT ru t am S) :=
  shareS_cl (P := sIn S.2.1) giveS_in (tOK_sh ht) (tOK_rk ht) (fun k hk => ⟨Int.le_refl 0, Int.add_zero _⟩) ⟨ha, h.2⟩
/-- a part is no more than the room was -/
theorem shT_part {ru : Int} {t : Nat → Int} (ht : tOK t) {am : Int} {S : sS} (h : sOK S) (ha : 0 ≤ am ∧ am ≤ 30000) {k : Nat} (hk : k < 6) : 0 ≤ (shT ru t am S).2.2 k ∧ (shT ru t am S).2.2 k ≤ 5000 := by
  have h1 := shT_in (ru := ru) ht h ha k hk
  have h2 := (shT_ok (ru := ru) ht h ha).2 k hk
  have h3 := h.2 k hk
  omega
/-! flows by member and kind -/
theorem up_ix {f : Nat → Int} {j a m k : Nat} {x : Int} (ha : a < 8) (hk : k < 8) : up f (j * 8 + a) x (m * 8 + k) = if m = j ∧ k = a then x else f (m * 8 + k) := by
  unfold up
  by_cases h : m = j ∧ k = a
  · obtain ⟨rfl, rfl⟩ := h
    rw [if_pos rfl, if_pos ⟨rfl, rfl⟩]
  · rw [if_neg h, if_neg (by omega)]
theorem ownF_at {g u f : Nat → Int} {m k : Nat} (hk : k < 8) : ∀ j : Nat, ownF g u f j (m * 8 + k) = if m < j ∧ k = 0 then min (g m) (u m) else f (m * 8 + k)
  | 0 => by rw [if_neg (by omega)]; rfl
  | j + 1 => by
    show up (ownF g u f j) (j * 8 + 0) _ (m * 8 + k) = _
    rw [up_ix (by omega) hk, ownF_at hk j]
    by_cases h1 : m = j ∧ k = 0
    · obtain ⟨rfl, rfl⟩ := h1; rw [if_pos ⟨rfl, rfl⟩, if_pos ⟨by omega, rfl⟩]
    · rw [if_neg h1]
      by_cases h2 : m < j ∧ k = 0
      · rw [if_pos h2, if_pos (by omega)]
      · rw [if_neg h2, if_neg (by omega)]
theorem keepF_at {a b : Nat} (ha : a < 8) (hb : b < 8) (hab : a ≠ b) {P1 P2 f : Nat → Int} {m k : Nat} (hk : k < 8) : ∀ j : Nat, keepF a b P1 P2 f j (m * 8 + k) = if m < j ∧ k = a then P1 m else if m < j ∧ k = b then P2 m else f (m * 8 + k)
  | 0 => by rw [if_neg (show ¬ (m < 0 ∧ k = a) by omega), if_neg (show ¬ (m < 0 ∧ k = b) by omega)]; rfl
  | j + 1 => by
    show up (up (keepF a b P1 P2 f j) (j * 8 + a) _) (j * 8 + b) _ (m * 8 + k) = _
    rw [up_ix hb hk, up_ix ha hk, keepF_at ha hb hab hk j]
    by_cases h1 : m = j ∧ k = b
    · obtain ⟨rfl, rfl⟩ := h1; rw [if_pos ⟨rfl, rfl⟩, if_neg (show ¬ (m < m + 1 ∧ k = a) by omega), if_pos (show m < m + 1 ∧ k = k by omega)]
    · rw [if_neg h1]
      by_cases h2 : m = j ∧ k = a
      · obtain ⟨rfl, rfl⟩ := h2; rw [if_pos ⟨rfl, rfl⟩, if_pos (show m < m + 1 ∧ k = k by omega)]
      · rw [if_neg h2]
        by_cases h3 : m < j ∧ k = a
        · rw [if_pos h3, if_pos (show m < j + 1 ∧ k = a by omega)]
        · rw [if_neg h3, if_neg (show ¬ (m < j + 1 ∧ k = a) by omega)]
          by_cases h4 : m < j ∧ k = b
          · rw [if_pos h4, if_pos (show m < j + 1 ∧ k = b by omega)]
          · rw [if_neg h4, if_neg (show ¬ (m < j + 1 ∧ k = b) by omega)]
/-- the flows before their money -/
def preG (R1 R2 f : Nat → Int) : Nat → Int := fun i => if i % 8 = 6 then R1 (i / 8) else if i % 8 = 3 then R2 (i / 8) else f i
theorem mon_congr {t f f' : Nat → Int} {m : Nat} (h : ∀ k, k < 7 → f (m * 8 + k) = f' (m * 8 + k)) : mon t f m = mon t f' m := by
  unfold mon
  rw [h 4 (by omega), h 5 (by omega), h 1 (by omega), h 2 (by omega), h 6 (by omega), h 3 (by omega)]
theorem gridF_at {t R1 R2 f : Nat → Int} {m k : Nat} (hk : k < 8) : ∀ j : Nat, gridF t R1 R2 f j (m * 8 + k) = if m < j then (if k = 7 then mon t (preG R1 R2 f) m else preG R1 R2 f (m * 8 + k)) else f (m * 8 + k)
  | 0 => by rw [if_neg (by omega)]; rfl
  | j + 1 => by
    have ih := fun (k : Nat) (hk : k < 8) => gridF_at (t := t) (R1 := R1) (R2 := R2) (f := f) (m := m) (k := k) hk j
    have hx : ∀ k, k < 8 → up (up (gridF t R1 R2 f j) (j * 8 + 6) (R1 j)) (j * 8 + 3) (R2 j) (m * 8 + k) = if m = j then preG R1 R2 f (m * 8 + k) else gridF t R1 R2 f j (m * 8 + k) := by
      intro k hk
      rw [up_ix (by omega) hk, up_ix (by omega) hk]
      by_cases h : m = j
      · subst h
        rw [if_pos rfl]
        unfold preG
        rw [show (m * 8 + k) % 8 = k by omega, show (m * 8 + k) / 8 = m by omega, ih k hk, if_neg (show ¬ m < m by omega)]
        by_cases h3 : k = 3
        · subst h3; rw [if_pos (show m = m ∧ 3 = 3 by omega), if_neg (show ¬ 3 = 6 by omega), if_pos rfl]
        · rw [if_neg (show ¬ (m = m ∧ k = 3) by omega)]
          by_cases h6 : k = 6
          · rw [if_pos (show m = m ∧ k = 6 from ⟨rfl, h6⟩), if_pos h6]
          · rw [if_neg (show ¬ (m = m ∧ k = 6) by omega), if_neg h6, if_neg h3]
      · rw [if_neg (show ¬ (m = j ∧ k = 3) by omega), if_neg (show ¬ (m = j ∧ k = 6) by omega), if_neg h]
    show up (up (up (gridF t R1 R2 f j) (j * 8 + 6) (R1 j)) (j * 8 + 3) (R2 j)) (j * 8 + 7) (mon t (up (up (gridF t R1 R2 f j) (j * 8 + 6) (R1 j)) (j * 8 + 3) (R2 j)) j) (m * 8 + k) = _
    rw [up_ix (by omega) hk, hx k hk]
    by_cases h : m = j
    · subst h
      rw [if_pos (show m < m + 1 by omega), if_pos rfl]
      by_cases h7 : k = 7
      · rw [if_pos (show m = m ∧ k = 7 from ⟨rfl, h7⟩), if_pos h7]
        exact mon_congr (fun k9 hk9 => by rw [hx k9 (by omega), if_pos rfl])
      · rw [if_neg (show ¬ (m = m ∧ k = 7) by omega), if_neg h7]
    · rw [if_neg (show ¬ (m = j ∧ k = 7) by omega), if_neg h, ih k hk]
      by_cases h2 : m < j
      · rw [if_pos h2, if_pos (show m < j + 1 by omega)]
      · rw [if_neg h2, if_neg (show ¬ m < j + 1 by omega)]
