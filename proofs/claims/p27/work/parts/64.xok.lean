/-! terms within bounds, as the law sets them -/
theorem tOK_mem {nw : Nat → Int} (h : tOK nw) {m : Nat} (hm : m < 6) {a b : Int} (ha : 0 ≤ a ∧ a ≤ 100) (hb : 0 ≤ b ∧ b ≤ 99) : tOK (up (up nw (7 + m) a) (13 + m) b) := by
  obtain ⟨h0, h1, h2, h3, h4, h5, h6, h7, h8⟩ := h
  refine ⟨?_, ?_, ?_, ?_, ?_, ?_, ?_, fun k hk => ?_, fun k hk => ?_⟩
  · rw [up_n (by omega), up_n (by omega)]; exact h0
  · rw [up_n (by omega), up_n (by omega)]; exact h1
  · rw [up_n (by omega), up_n (by omega)]; exact h2
  · rw [up_n (by omega), up_n (by omega)]; exact h3
  · rw [up_n (by omega), up_n (by omega)]; exact h4
  · rw [up_n (by omega), up_n (by omega)]; exact h5
  · rw [up_n (by omega), up_n (by omega)]; exact h6
  · rw [up_n (by omega)]
    by_cases hkm : k = m
    · subst hkm; rw [up_s]; exact ha
    · rw [up_n (by omega)]; exact h7 k hk
  · by_cases hkm : k = m
    · subst hkm; rw [up_s]; exact hb
    · rw [up_n (by omega), up_n (by omega)]; exact h8 k hk
theorem tOK_pr {nw : Nat → Int} (h : tOK nw) {a b d : Int} (ha : 0 ≤ a ∧ a ≤ 100) (hb : 0 ≤ b ∧ b ≤ 100) (hd : 0 ≤ d ∧ d ≤ 100) : tOK (up (up (up nw 1 a) 2 b) 3 d) := by
  obtain ⟨h0, h1, h2, h3, h4, h5, h6, h7, h8⟩ := h
  refine ⟨h0, ha, hb, hd, h4, h5, h6, fun k hk => ?_, fun k hk => ?_⟩
  · rw [up_n (by omega), up_n (by omega), up_n (by omega)]; exact h7 k hk
  · rw [up_n (by omega), up_n (by omega), up_n (by omega)]; exact h8 k hk
theorem tOK_ba {nw : Nat → Int} (h : tOK nw) {a b d : Int} (ha : 0 ≤ a ∧ a ≤ 20000) (hb : 0 ≤ b ∧ b ≤ 5000) (hd : 1 ≤ d ∧ d ≤ 100) : tOK (up (up (up nw 4 a) 5 b) 6 d) := by
  obtain ⟨h0, h1, h2, h3, h4, h5, h6, h7, h8⟩ := h
  refine ⟨h0, h1, h2, h3, ha, hb, hd, fun k hk => ?_, fun k hk => ?_⟩
  · rw [up_n (by omega), up_n (by omega), up_n (by omega)]; exact h7 k hk
  · rw [up_n (by omega), up_n (by omega), up_n (by omega)]; exact h8 k hk
section XOK
variable {n p st : Nat} {bc : Int} {nw : Nat → Int} {S1 S2 : sS} {tx : Nat → Nat → Int} {sg : Nat → Nat → Nat → Int}
theorem xOK.mem (h : xOK n p st bc nw S1 S2 tx sg) {m : Nat} (hm : m < 6) {a b : Int} (ha : 0 ≤ a ∧ a ≤ 100) (hb : 0 ≤ b ∧ b ≤ 99) : xOK n p st bc (up (up nw (7 + m) a) (13 + m) b) S1 S2 tx sg := by
  obtain ⟨y1, y2, y3, y4, y5, y6, y7, y8, y9⟩ := h
  refine ⟨y1, y2, y3, tOK_mem y4 hm ha hb, ?_, y6, y7, y8, y9⟩
  rw [up_n (by omega), up_n (by omega)]; exact y5
theorem xOK.cnt (h : xOK n p st bc nw S1 S2 tx sg) {k : Nat} (hk : k ≤ 6) : xOK k p st bc nw S1 S2 tx sg := ⟨hk, h.2⟩
theorem xOK.pr (h : xOK n p st bc nw S1 S2 tx sg) {a b d : Int} (ha : 0 ≤ a ∧ a ≤ 100) (hb : 0 ≤ b ∧ b ≤ 100) (hd : 0 ≤ d ∧ d ≤ 100) : xOK n p st bc (up (up (up nw 1 a) 2 b) 3 d) S1 S2 tx sg := by
  obtain ⟨y1, y2, y3, y4, y5, y6, y7, y8, y9⟩ := h
  exact ⟨y1, y2, y3, tOK_pr y4 ha hb hd, y5, y6, y7, y8, y9⟩
theorem xOK.ba (h : xOK n p st bc nw S1 S2 tx sg) {a b d : Int} (ha : 0 ≤ a ∧ a ≤ 20000) (hb : 0 ≤ b ∧ b ≤ 5000) (hd : 1 ≤ d ∧ d ≤ 100) : xOK n p st (min bc a) (up (up (up nw 4 a) 5 b) 6 d) S1 S2 tx sg := by
  obtain ⟨y1, y2, y3, y4, y5, y6, y7, y8, y9⟩ := h
  refine ⟨y1, y2, y3, tOK_ba y4 ha hb hd, ?_, y6, y7, y8, y9⟩
  show 0 ≤ min bc a ∧ min bc a ≤ a
  omega
end XOK
theorem cp_0 (X Y : Nat → Int) : cp X Y 0 = Y := by
  funext k
  exact if_neg (by omega)
theorem lcI_self (x : Int) : lcI x x = 0 := by
  unfold lcI lg_cmp
  rw [if_neg (fun h => absurd h (by simp)), if_pos rfl]; rfl
theorem con_b {sg : Nat → Nat → Nat → Int} (h : ∀ j, j < 48 → slOK (sg j)) : ∀ k : Nat, k ≤ 48 → 0 ≤ con sg k ∧ con sg k ≤ 20000
  | 0, _ => by show (0 : Int) ≤ 0 ∧ (0 : Int) ≤ 20000; decide
  | k + 1, hk => by
    have h1 := afX_b (h k (by omega))
    have h2 := (h k (by omega)).1.2.2.2.2.1
    show 0 ≤ afX (sg k) ∧ afX (sg k) ≤ 20000
    omega
/-- what came from the grid is a part of what was used -/
theorem LI_ind {n p : Nat} {bc pot gr : Int} {nw bal T EF CP : Nat → Int} {S1 S2 : sS} {tx : Nat → Nat → Int} {sg : Nat → Nat → Nat → Int} (h : LI n p bc pot gr nw bal T EF CP S1 S2 tx sg) : (0 ≤ sumN (fun s9 => sumN (fun m9 => sg s9 3 (m9 * 8 + 3)) 6) p ∧ sumN (fun s9 => sumN (fun m9 => sg s9 3 (m9 * 8 + 3)) 6) p ≤ sumN (fun s9 => sumN (sg s9 2) 6) p) ∧ sumN (fun s9 => sumN (sg s9 2) 6) p < 2147483648 := by
  obtain ⟨⟨h1, h2⟩, ⟨y1, y2, y3, y4, y5, y6, y7, y8, y9⟩, h4, h5, h6, h7⟩ := h
  have b1 := sumN_b (F := fun s9 => sumN (sg s9 2) 6) (B := 30000) p (fun s hs => by
    have := sumN_b (F := sg s 2) (B := 5000) 6 (y9 s (by omega)).2.2.1
    show 0 ≤ sumN (sg s 2) 6 ∧ sumN (sg s 2) 6 ≤ 30000
    omega)
  have b2 := sumN_b (F := fun s9 => sumN (fun m9 => sg s9 3 (m9 * 8 + 3)) 6) (B := 30000) p (fun s hs => by
    have := sumN_b (F := fun m9 => sg s 3 (m9 * 8 + 3)) (B := 5000) 6 (fun k hk => (y9 s (by omega)).2.2.2.1.1 k hk 3 (by omega))
    show 0 ≤ sumN (fun m9 => sg s 3 (m9 * 8 + 3)) 6 ∧ sumN (fun m9 => sg s 3 (m9 * 8 + 3)) 6 ≤ 30000
    omega)
  have b3 : sumN (fun s9 => sumN (fun m9 => sg s9 3 (m9 * 8 + 3)) 6) p ≤ sumN (fun s9 => sumN (sg s9 2) 6) p := sumN_le p (fun s hs => sumN_le 6 (fun k hk => by
    have := fc_mem (y9 s (by omega)) (h6 s hs).1.1 hk
    show sg s 3 (k * 8 + 3) ≤ sg s 2 k
    have h8 := (y9 s (by omega)).2.2.2.1.1 k hk 0 (by omega)
    omega))
  omega
