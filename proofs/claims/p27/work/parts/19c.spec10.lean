theorem tOK_rule {t : Nat → Int} (h : tOK t) {ru : Int} (hr : 0 ≤ ru ∧ ru ≤ 3) : tOK (up t 0 ru) := by
  obtain ⟨h0, h1, h2, h3, h4, h5, h6, h7, h8⟩ := h
  refine ⟨?_, ?_, ?_, ?_, ?_, ?_, ?_, fun k hk => ?_, fun k hk => ?_⟩
  · rw [up_s]; exact hr
  · rw [up_n (by omega)]; exact h1
  · rw [up_n (by omega)]; exact h2
  · rw [up_n (by omega)]; exact h3
  · rw [up_n (by omega)]; exact h4
  · rw [up_n (by omega)]; exact h5
  · rw [up_n (by omega)]; exact h6
  · rw [up_n (by omega)]; exact h7 k hk
  · rw [up_n (by omega)]; exact h8 k hk
theorem sOK_0 : sOK (0, fun _ => 0, fun _ => 0) := ⟨by show (0 : Int) ≤ 0 ∧ (0 : Int) ≤ 30000; omega, fun _ _ => by show (0 : Int) ≤ 0 ∧ (0 : Int) ≤ 5000; omega⟩
theorem CV_fl {g u t : Nat → Int} {cb : Int} (hg : rdOK g) (hu : rdOK u) (ht : tOK t) (hc : 0 ≤ cb ∧ cb ≤ t 4) : flOK (CV g u t cb) := by
  have h := clZ_fl (f := fun _ => 0) hg hu ht hc sOK_0 sOK_0
  refine ⟨fun m hm k hk => ?_, fun m hm => ?_⟩
  · have := h.1 m hm k hk
    rw [clZ_can hm (by omega)] at this
    exact this
  · have := h.2 m hm
    rw [clZ_can hm (by omega)] at this
    exact this
/-- the best of the first rules: its number, what it brings -/
def bsN (F : Nat → Int) : Nat → Int × Int
  | 0 => (0, 0)
  | r + 1 => if r = 0 ∨ (bsN F r).2 < F r then (((r : Nat) : Int), F r) else bsN F r
theorem bsN_b {F : Nat → Int} (hF : ∀ r, r < 4 → -10000000 ≤ F r ∧ F r ≤ 10000000) : ∀ r : Nat, r ≤ 4 → -10000000 ≤ (bsN F r).2 ∧ (bsN F r).2 ≤ 10000000
  | 0, _ => by show (-10000000 : Int) ≤ 0 ∧ (0 : Int) ≤ 10000000; omega
  | r + 1, h => by
    unfold bsN
    split
    · exact hF r (by omega)
    · exact bsN_b hF r (by omega)
def digM (nw bal due : Nat → Int) (d : Int) : Nat → Int
  | 0 => d
  | j + 1 => (((digM nw bal due d j * 31 + nw (7 + j)) * 31 + nw (13 + j)) * 31 + bal j) * 31 + due j
def digS (sg : Nat → Nat → Nat → Int) (n : Nat) (d : Int) : Nat → Int
  | 0 => d
  | s + 1 => mixM (sg s 1) (sg s 2) (sg s 3) (digS sg n d s * 31 + sg s 4 0) n
def digX (n p st : Nat) (cc bc pot gr bk : Int) (nw bal due : Nat → Int) (sg : Nat → Nat → Nat → Int) : Int :=
  (digS sg n (((digM nw bal due ((((199 * 31 + (n : Int)) * 31 + (p : Int)) * 31 + bc) * 31 + nw 0) n * 31 + pot) * 31 + gr) * 31 + bk) p * 31 + (st : Int)) * 31 + cc
def x00 : Nat → Nat → Int := mkS t00 (fun _ => 0) (fun _ => 0) (fun _ => 0) 0 0
theorem slF_sa (k4 : Nat → ClassId) (sa sa' : Nat → Nat → Nat) (sg : Nat → Nat → Nat → Int) : ∀ n : Nat, (∀ j, j < n → sa j = sa' j) → slF k4 sa sg n = slF k4 sa' sg n
  | 0, _ => rfl
  | n + 1, h => by
    show slF k4 sa sg n ++ slC k4 (sa n) (sg n) = slF k4 sa' sg n ++ slC k4 (sa' n) (sg n)
    rw [slF_sa k4 sa sa' sg n (fun j hj => h j (by omega)), h n (by omega)]
def upA (sa : Nat → Nat → Nat) (i : Nat) (a : Nat → Nat) : Nat → Nat → Nat := fun j => if j = i then a else sa j
def ad7 (a b c d e f g : Nat) : Nat → Nat := fun i => match i with
  | 0 => a
  | 1 => b
  | 2 => c
  | 3 => d
  | 4 => e
  | 5 => f
  | _ => g
theorem slF_add (k4 : Nat → ClassId) (sa : Nat → Nat → Nat) (sg : Nat → Nat → Nat → Int) (i : Nat) (a : Nat → Nat) : slF k4 (upA sa i a) sg (i + 1) = slF k4 sa sg i ++ slC k4 a (sg i) := by
  show slF k4 (upA sa i a) sg i ++ slC k4 (upA sa i a i) (sg i) = _
  rw [slF_sa k4 (upA sa i a) sa sg i (fun j hj => if_neg (by omega))]
  show _ ++ slC k4 (if i = i then a else sa i) (sg i) = _
  rw [if_pos rfl]
/-- the references of the first i slots -/
def qs (sa : Nat → Nat → Nat) (i : Nat) : Nat → Option Nat := fun k => if k < i then some (sa k 0) else none
theorem qs_s (sa : Nat → Nat → Nat) (i : Nat) (a : Nat → Nat) : va_up (qs sa i) i (some (a 0)) = qs (upA sa i a) (i + 1) := by
  funext k
  unfold va_up qs upA
  by_cases h : k = i
  · subst h; rw [if_pos rfl, if_pos (by omega), if_pos rfl]
  · rw [if_neg h]
    by_cases h2 : k < i
    · rw [if_pos h2, if_pos (by omega), if_neg h]
    · rw [if_neg h2, if_neg (by omega)]
theorem slOK_0 : slOK x00 := by
  refine ⟨⟨by decide, by decide, by decide, by decide, by decide, by decide, by decide, fun k hk => ?_, fun k hk => ?_⟩, fun _ _ => by show (0 : Int) ≤ 0 ∧ (0 : Int) ≤ 5000; omega, fun _ _ => by show (0 : Int) ≤ 0 ∧ (0 : Int) ≤ 5000; omega, ⟨fun _ _ _ _ => by show (0 : Int) ≤ 0 ∧ (0 : Int) ≤ 5000; omega, fun _ _ => by show (-10000000 : Int) ≤ 0 ∧ (0 : Int) ≤ 10000000; omega⟩, by decide, by decide⟩
  · show 0 ≤ t00 (7 + k) ∧ t00 (7 + k) ≤ 100
    rw [t00_hi 7 k (by omega)]; omega
  · show 0 ≤ t00 (13 + k) ∧ t00 (13 + k) ≤ 99
    rw [t00_hi 13 k (by omega)]; omega
