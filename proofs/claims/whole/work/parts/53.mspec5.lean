/-! a slot's row in the long row of flows -/
theorem cpy_f {C FL : Nat → Int} {s i : Nat} (hi : i < 48) : cpyI C FL 0 (48 * s) 48 (48 * s + i) = C i := by
  unfold cpyI
  rw [if_pos (by omega)]
  congr 1; omega
theorem cpy_o {C FL : Nat → Int} {s x : Nat} (h : ¬ (48 * s ≤ x ∧ x < 48 * s + 48)) : cpyI C FL 0 (48 * s) 48 x = FL x := if_neg h
theorem fl_congr {f f' : Nat → Int} (h : ∀ i, i < 48 → f i = f' i) (hf : flOK f) : flOK f' := by
  refine ⟨fun m hm k hk => ?_, fun m hm => ?_⟩
  · rw [← h _ (by omega)]; exact hf.1 m hm k hk
  · rw [← h _ (by omega)]; exact hf.2 m hm
theorem bookB_congr {bal f f' : Nat → Int} {sg : Int} (h : ∀ i, i < 48 → f i = f' i) : ∀ n : Nat, n ≤ 6 → bookB bal f sg n = bookB bal f' sg n
  | 0, _ => rfl
  | n + 1, hn => by
    show up (bookB bal f sg n) n (bookB bal f sg n n + sg * f (n * 8 + 7)) = up (bookB bal f' sg n) n (bookB bal f' sg n n + sg * f' (n * 8 + 7))
    rw [bookB_congr h n (by omega), h _ (by omega)]
theorem sumN_congr {F F' : Nat → Int} : ∀ n : Nat, (∀ k, k < n → F k = F' k) → sumN F n = sumN F' n
  | 0, _ => rfl
  | n + 1, h => by
    show sumN F n + F n = sumN F' n + F' n
    rw [sumN_congr n (fun k hk => h k (by omega)), h n (by omega)]
theorem mP_congr {t f f' : Nat → Int} {sg : Int} (h : ∀ i, i < 48 → f i = f' i) {n : Nat} (hn : n ≤ 6) : mP t f sg n = mP t f' sg n :=
  sumN_congr n (fun k hk => by rw [h (k * 8 + 2) (by omega), h (k * 8 + 5) (by omega)])
theorem mG_congr {t f f' : Nat → Int} {sg : Int} (h : ∀ i, i < 48 → f i = f' i) {n : Nat} (hn : n ≤ 6) : mG t f sg n = mG t f' sg n :=
  sumN_congr n (fun k hk => by rw [h (k * 8 + 3) (by omega), h (k * 8 + 6) (by omega)])
