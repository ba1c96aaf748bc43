/-! a closed slot: its flows are the closing's -/
def zb (n : Nat) (x : Nat → Nat → Int) : Prop := ∀ k, n ≤ k → k < 6 → x 1 k = 0 ∧ x 2 k = 0
def fc (x : Nat → Nat → Int) : Prop := ∀ m, m < 6 → ∀ k, k < 8 → x 3 (m * 8 + k) = CV (x 1) (x 2) (x 0) (x 4 0) (m * 8 + k)
noncomputable def afX (x : Nat → Nat → Int) : Int := CAft (x 1) (x 2) (x 0) (x 4 0)
def MB (n : Nat) (t f : Nat → Int) : Prop := sumN (fun m => f (m * 8 + 7)) n + bookP t f 1 + bookG t f 1 = 0
theorem CV_lo {g u t : Nat → Int} {cb : Int} {m k : Nat} (hk : k < 7) : CV g u t cb (m * 8 + k) = cF g u t cb (m * 8 + k) := by
  unfold CV
  rw [if_neg (by omega)]
theorem CV_7 {g u t : Nat → Int} {cb : Int} {m : Nat} : CV g u t cb (m * 8 + 7) = mon t (cF g u t cb) m := by
  unfold CV
  rw [if_pos (by omega), show (m * 8 + 7) / 8 = m by omega]
section FCX
variable {n : Nat} {x : Nat → Nat → Int}
theorem fc_at (h : fc x) {m : Nat} (hm : m < 6) : x 3 (m * 8 + 0) = min (x 1 m) (x 2 m) ∧ x 3 (m * 8 + 1) = (cB1 (x 1) (x 2) (x 0)).2.2 m ∧ x 3 (m * 8 + 2) = (cB2 (x 1) (x 2) (x 0) (x 4 0)).2.2 m ∧ x 3 (m * 8 + 3) = (cB2 (x 1) (x 2) (x 0) (x 4 0)).2.1 m ∧ x 3 (m * 8 + 4) = (cA1 (x 1) (x 2) (x 0)).2.2 m ∧ x 3 (m * 8 + 5) = (cA2 (x 1) (x 2) (x 0) (x 4 0)).2.2 m ∧ x 3 (m * 8 + 6) = (cA2 (x 1) (x 2) (x 0) (x 4 0)).2.1 m := by
  refine ⟨?_, ?_, ?_, ?_, ?_, ?_, ?_⟩
  · rw [h m hm 0 (by omega), CV_lo (by omega), cF_at (by omega)]; rfl
  · rw [h m hm 1 (by omega), CV_lo (by omega), cF_at (by omega)]; rfl
  · rw [h m hm 2 (by omega), CV_lo (by omega), cF_at (by omega)]; rfl
  · rw [h m hm 3 (by omega), CV_lo (by omega), cF_at (by omega)]; rfl
  · rw [h m hm 4 (by omega), CV_lo (by omega), cF_at (by omega)]; rfl
  · rw [h m hm 5 (by omega), CV_lo (by omega), cF_at (by omega)]; rfl
  · rw [h m hm 6 (by omega), CV_lo (by omega), cF_at (by omega)]; rfl
theorem fc_mem (hx : slOK x) (h : fc x) {m : Nat} (hm : m < 6) : (x 3 (m * 8 + 0) + x 3 (m * 8 + 1) + x 3 (m * 8 + 2) + x 3 (m * 8 + 3) = x 2 m ∧ x 3 (m * 8 + 0) + x 3 (m * 8 + 4) + x 3 (m * 8 + 5) + x 3 (m * 8 + 6) = x 1 m ∧ x 3 (m * 8 + 0) = min (x 1 m) (x 2 m)) ∧ (0 ≤ x 3 (m * 8 + 1) ∧ 0 ≤ x 3 (m * 8 + 2) ∧ 0 ≤ x 3 (m * 8 + 3)) ∧ (0 ≤ x 3 (m * 8 + 4) ∧ 0 ≤ x 3 (m * 8 + 5) ∧ 0 ≤ x 3 (m * 8 + 6)) := by
  obtain ⟨ht, hg, hu, hf, hc⟩ := hx
  obtain ⟨e0, e1, e2, e3, e4, e5, e6⟩ := fc_at h hm
  obtain ⟨⟨k1, k2⟩, k3, k4⟩ := mem_fl hg hu ht hc hm
  have hn : neeF (x 1) (x 2) m = x 2 m - min (x 1 m) (x 2 m) := rfl
  have hs : surF (x 1) (x 2) m = x 1 m - min (x 1 m) (x 2 m) := rfl
  rw [hn] at k1
  rw [hs] at k2
  rw [e0, e1, e2, e3, e4, e5, e6]
  omega
theorem fc_out (hx : slOK x) (h : fc x) (hz : zb n x) {m : Nat} (hn : n ≤ m) (hm : m < 6) : (x 3 (m * 8 + 1) = 0 ∧ x 3 (m * 8 + 2) = 0 ∧ x 3 (m * 8 + 3) = 0) ∧ x 3 (m * 8 + 4) = 0 ∧ x 3 (m * 8 + 5) = 0 ∧ x 3 (m * 8 + 6) = 0 := by
  obtain ⟨⟨a1, a2, a3⟩, a4, a5⟩ := fc_mem hx h hm
  obtain ⟨z1, z2⟩ := hz m hn hm
  rw [z1, z2] at a3
  omega
theorem afX_b (hx : slOK x) : 0 ≤ afX x ∧ afX x ≤ x 0 4 := by
  obtain ⟨ht, hg, hu, hf, hc⟩ := hx
  have := clA_b (f := fun _ => 0) hg hu ht hc sOK_0 sOK_0
  rw [clA_can] at this
  exact this
theorem fc_sums (hn : n ≤ 6) (hx : slOK x) (h : fc x) (hz : zb n x) : sumN (fun m => x 3 (m * 8 + 1)) n = sumN (fun m => x 3 (m * 8 + 4)) n ∧ (0 ≤ sumN (fun m => x 3 (m * 8 + 5)) n ∧ sumN (fun m => x 3 (m * 8 + 5)) n ≤ 5000) ∧ (0 ≤ sumN (fun m => x 3 (m * 8 + 2)) n ∧ sumN (fun m => x 3 (m * 8 + 2)) n ≤ 5000) ∧ (sumN (fun m => x 3 (m * 8 + 5)) n = 0 ∨ sumN (fun m => x 3 (m * 8 + 2)) n = 0) ∧ afX x = x 4 0 + sumN (fun m => x 3 (m * 8 + 5)) n * x 0 6 / 100 - sumN (fun m => x 3 (m * 8 + 2)) n := by
  have hx' := id hx
  obtain ⟨ht, hg, hu, hf, hc⟩ := hx'
  obtain ⟨s1, s2, s3, s4, s5⟩ := sums hg hu ht hc
  have hch := chg_b ht hc (cA1_ok hg hu ht)
  have hdi := dis_b ht hc (cB1_ok hg hu ht)
  have e1 : sumN (fun m => x 3 (m * 8 + 1)) n = betW (x 1) (x 2) := by
    rw [← sumN_n6 (F := fun m => x 3 (m * 8 + 1)) hn (fun k h1 h2 => (fc_out hx h hz h1 h2).1.1), ← s2]
    exact sumN_ex 6 (fun k hk => (fc_at h hk).2.1)
  have e4 : sumN (fun m => x 3 (m * 8 + 4)) n = betW (x 1) (x 2) := by
    rw [← sumN_n6 (F := fun m => x 3 (m * 8 + 4)) hn (fun k h1 h2 => (fc_out hx h hz h1 h2).2.1), ← s1]
    exact sumN_ex 6 (fun k hk => (fc_at h hk).2.2.2.2.1)
  have e5 : sumN (fun m => x 3 (m * 8 + 5)) n = chg (x 0) (x 4 0) (cA1 (x 1) (x 2) (x 0)) := by
    rw [← sumN_n6 (F := fun m => x 3 (m * 8 + 5)) hn (fun k h1 h2 => (fc_out hx h hz h1 h2).2.2.1), ← s3]
    exact sumN_ex 6 (fun k hk => (fc_at h hk).2.2.2.2.2.1)
  have e2 : sumN (fun m => x 3 (m * 8 + 2)) n = dis (x 0) (x 4 0) (cB1 (x 1) (x 2) (x 0)) := by
    rw [← sumN_n6 (F := fun m => x 3 (m * 8 + 2)) hn (fun k h1 h2 => (fc_out hx h hz h1 h2).1.2.1), ← s4]
    exact sumN_ex 6 (fun k hk => (fc_at h hk).2.2.1)
  rw [e1, e4, e5, e2]
  exact ⟨rfl, ⟨hch.1, hch.2.2⟩, ⟨hdi.1, hdi.2.2⟩, s5, rfl⟩
theorem mon_sum (t f : Nat → Int) : ∀ n : Nat, sumN (fun m => mon t f m) n = t 3 * (sumN (fun m => f (m * 8 + 4)) n + sumN (fun m => f (m * 8 + 5)) n - (sumN (fun m => f (m * 8 + 1)) n + sumN (fun m => f (m * 8 + 2)) n)) + t 2 * sumN (fun m => f (m * 8 + 6)) n - t 1 * sumN (fun m => f (m * 8 + 3)) n
  | 0 => by
    show (0 : Int) = t 3 * (0 + 0 - (0 + 0)) + t 2 * 0 - t 1 * 0
    simp
  | n + 1 => by
    have ih := mon_sum t f n
    show sumN (fun m => mon t f m) n + (t 3 * (f (n * 8 + 4) + f (n * 8 + 5) - (f (n * 8 + 1) + f (n * 8 + 2))) + t 2 * f (n * 8 + 6) - t 1 * f (n * 8 + 3)) = t 3 * (sumN (fun m => f (m * 8 + 4)) n + f (n * 8 + 4) + (sumN (fun m => f (m * 8 + 5)) n + f (n * 8 + 5)) - (sumN (fun m => f (m * 8 + 1)) n + f (n * 8 + 1) + (sumN (fun m => f (m * 8 + 2)) n + f (n * 8 + 2)))) + t 2 * (sumN (fun m => f (m * 8 + 6)) n + f (n * 8 + 6)) - t 1 * (sumN (fun m => f (m * 8 + 3)) n + f (n * 8 + 3))
    rw [ih]
    simp only [Int.mul_add, Int.mul_sub]
    omega
theorem MB_fc (hn : n ≤ 6) (hx : slOK x) (h : fc x) (hz : zb n x) : MB n (x 0) (x 3) := by
  have hs := (fc_sums hn hx h hz).1
  have e7 : sumN (fun m => x 3 (m * 8 + 7)) n = sumN (fun m => mon (x 0) (x 3) m) n := sumN_ex n (fun k hk => by
    show x 3 (k * 8 + 7) = mon (x 0) (x 3) k
    rw [h k (by omega) 7 (by omega), CV_7]
    exact mon_congr (fun k9 hk9 => by rw [h k (by omega) k9 (by omega), CV_lo hk9]))
  have e2 := sumN_n6 (F := fun m => x 3 (m * 8 + 2)) hn (fun k h1 h2 => (fc_out hx h hz h1 h2).1.2.1)
  have e3 := sumN_n6 (F := fun m => x 3 (m * 8 + 3)) hn (fun k h1 h2 => (fc_out hx h hz h1 h2).1.2.2)
  have e5 := sumN_n6 (F := fun m => x 3 (m * 8 + 5)) hn (fun k h1 h2 => (fc_out hx h hz h1 h2).2.2.1)
  have e6 := sumN_n6 (F := fun m => x 3 (m * 8 + 6)) hn (fun k h1 h2 => (fc_out hx h hz h1 h2).2.2.2)
  unfold MB bookP bookG
  rw [e7, mon_sum, e2, e3, e5, e6, hs, Int.one_mul, Int.one_mul]
  simp only [Int.mul_add, Int.mul_sub]
  omega
end FCX
/-! booking -/
theorem bookB_at (bal f : Nat → Int) (sg : Int) (k : Nat) : ∀ j : Nat, bookB bal f sg j k = if k < j then bal k + sg * f (k * 8 + 7) else bal k
  | 0 => by rw [if_neg (by omega)]; rfl
  | j + 1 => by
    show up (bookB bal f sg j) j (bookB bal f sg j j + sg * f (j * 8 + 7)) k = _
    by_cases h : k = j
    · subst h
      rw [up_s, bookB_at bal f sg k k, if_neg (by omega), if_pos (by omega)]
    · rw [up_n h, bookB_at bal f sg k j]
      by_cases h2 : k < j
      · rw [if_pos h2, if_pos (by omega)]
      · rw [if_neg h2, if_neg (by omega)]
theorem sumN_mul (c : Int) (F : Nat → Int) : ∀ n : Nat, sumN (fun m => c * F m) n = c * sumN F n
  | 0 => by show (0 : Int) = c * 0; simp
  | n + 1 => by
    show sumN (fun m => c * F m) n + c * F n = c * (sumN F n + F n)
    rw [sumN_mul c F n, Int.mul_add]
theorem bookB_sum (bal f : Nat → Int) (sg : Int) (n : Nat) : sumN (bookB bal f sg n) n = sumN bal n + sg * sumN (fun m => f (m * 8 + 7)) n := by
  rw [← sumN_mul, ← sumN_add]
  exact sumN_ex n (fun k hk => by rw [bookB_at, if_pos hk])
theorem bookP_neg (t f : Nat → Int) : bookP t f (-1) = - bookP t f 1 := by
  unfold bookP
  rw [Int.one_mul, Int.neg_mul, Int.neg_mul, Int.one_mul]
theorem bookG_neg (t f : Nat → Int) : bookG t f (-1) = - bookG t f 1 := by
  unfold bookG
  rw [Int.one_mul, Int.neg_mul, Int.one_mul]
/-! the ledger between the law's steps -/
noncomputable def con (sg : Nat → Nat → Nat → Int) : Nat → Int
  | 0 => 0
  | s + 1 => afX (sg s)
theorem con_up {sg : Nat → Nat → Nat → Int} {k : Nat} {x : Nat → Nat → Int} : ∀ s : Nat, s ≤ k → con (upS sg k x) s = con sg s
  | 0, _ => rfl
  | s + 1, h => by
    show afX (upS sg k x s) = afX (sg s)
    rw [upS_n (by omega)]
def LI (n p : Nat) (bc pot gr : Int) (nw bal T EF CP : Nat → Int) (S1 S2 : sS) (tx : Nat → Nat → Int) (sg : Nat → Nat → Nat → Int) : Prop :=
  (2 ≤ n ∧ p ≤ 14) ∧ xOK n p 0 bc nw S1 S2 tx sg ∧ (T 15 = nw 4 ∧ T 17 = nw 6) ∧ (∀ s, s < 48 → zb n (sg s)) ∧ (∀ s, s < p → (fc (sg s) ∧ sg s 4 0 = min (con sg s) (sg s 0 4)) ∧ EF s = sg s 0 6 ∧ CP s = sg s 0 4) ∧ pot + gr + sumN bal n = 0
/-- ahead of a slot, or behind its closing -/
def LH (n p : Nat) (bc pot gr : Int) (nw bal T EF CP : Nat → Int) (S1 S2 : sS) (tx : Nat → Nat → Int) (sg : Nat → Nat → Nat → Int) : Prop :=
  LI n p bc pot gr nw bal T EF CP S1 S2 tx sg ∧ bc = con sg p ∧ ∀ s, p = s + 1 → sg s 0 4 = nw 4
/-- just ahead of closing -/
def LM (n p : Nat) (bc pot gr : Int) (nw bal T EF CP : Nat → Int) (S1 S2 : sS) (tx : Nat → Nat → Int) (sg : Nat → Nat → Nat → Int) : Prop :=
  LI n p bc pot gr nw bal T EF CP S1 S2 tx sg ∧ bc = min (con sg p) (nw 4)
section LIX
variable {n p : Nat} {bc pot gr : Int} {nw bal T EF CP : Nat → Int} {S1 S2 : sS} {tx : Nat → Nat → Int} {sg : Nat → Nat → Nat → Int}
theorem LH.lm (h : LH n p bc pot gr nw bal T EF CP S1 S2 tx sg) : LM n p bc pot gr nw bal T EF CP S1 S2 tx sg := by
  have h5 := h.1.2.1.2.2.2.2.1
  have h2 := h.2.1
  exact ⟨h.1, by omega⟩
abbrev rmX (x : Nat → Nat → Int) (m : Nat) (a b : Int) : Nat → Nat → Int := mkS (x 0) (up (x 1) m a) (up (x 2) m b) (x 3) (x 4 0) (x 4 1)
theorem zb_rm {x : Nat → Nat → Int} {m : Nat} {a b : Int} (h : zb n x) (hm : m < n) : zb n (rmX x m a b) := by
  intro k h1 h2
  have h3 := h k h1 h2
  show up (x 1) m a k = 0 ∧ up (x 2) m b k = 0
  rw [up_n (by omega), up_n (by omega)]
  exact h3
theorem zb_upS {x : Nat → Nat → Int} {k : Nat} (h : ∀ s, s < 48 → zb n (sg s)) (hx : zb n x) : ∀ s, s < 48 → zb n (upS sg k x s) := by
  intro s hs
  unfold upS
  split
  · exact hx
  · exact h s hs
theorem LH.meter (h : LH n p bc pot gr nw bal T EF CP S1 S2 tx sg) {m : Nat} {a b : Int} (hm : m < n) (ha : 0 ≤ a ∧ a ≤ 5000) (hb : 0 ≤ b ∧ b ≤ 5000) : LH n p bc pot gr nw bal T EF CP S1 S2 tx (upS sg p (rmX (sg p) m a b)) := by
  obtain ⟨⟨⟨h1, h2⟩, ⟨y1, y2, y3, y4, y5, y6, y7, y8, y9⟩, h4, h5, h6, h7⟩, h8, h9⟩ := h
  refine ⟨⟨⟨h1, h2⟩, ⟨y1, y2, y3, y4, y5, y6, y7, y8, slOK_upS y9 (slOK_rd (y9 p (by omega)) ha hb)⟩, h4, zb_upS h5 (zb_rm (h5 p (by omega)) hm), fun s hs => ?_, h7⟩, ?_, fun s hs => ?_⟩
  · rw [upS_n (by omega), con_up s (by omega)]
    exact h6 s hs
  · rw [con_up p (by omega)]; exact h8
  · rw [upS_n (by omega)]; exact h9 s hs
theorem tOK_set {nw : Nat → Int} (h : tOK nw) {a b d c4 c5 c6 ru : Int} (ha : 0 ≤ a ∧ a ≤ 100) (hb : 0 ≤ b ∧ b ≤ 100) (hd : 0 ≤ d ∧ d ≤ 100) (h4 : 0 ≤ c4 ∧ c4 ≤ 20000) (h5 : 0 ≤ c5 ∧ c5 ≤ 5000) (h6 : 1 ≤ c6 ∧ c6 ≤ 100) (h0 : 0 ≤ ru ∧ ru ≤ 3) : tOK (up (up (up (up (up (up (up nw 1 a) 2 b) 3 d) 4 c4) 5 c5) 6 c6) 0 ru) := by
  refine ⟨?_, ?_, ?_, ?_, ?_, ?_, ?_, fun k hk => ?_, fun k hk => ?_⟩
  · exact h0
  · exact ha
  · exact hb
  · exact hd
  · exact h4
  · exact h5
  · exact h6
  · rw [up_n (by omega), up_n (by omega), up_n (by omega), up_n (by omega), up_n (by omega), up_n (by omega), up_n (by omega)]
    exact h.2.2.2.2.2.2.2.1 k hk
  · rw [up_n (by omega), up_n (by omega), up_n (by omega), up_n (by omega), up_n (by omega), up_n (by omega), up_n (by omega)]
    exact h.2.2.2.2.2.2.2.2 k hk
theorem LH.set (h : LH n p bc pot gr nw bal T EF CP S1 S2 tx sg) {T' nw' : Nat → Int} (ht : tOK nw') (h15 : T' 15 = nw' 4) (h17 : T' 17 = nw' 6) : LM n p (min bc (nw' 4)) pot gr nw' bal T' EF CP S1 S2 tx sg := by
  obtain ⟨⟨⟨h1, h2⟩, ⟨y1, y2, y3, y4, y5, y6, y7, y8, y9⟩, h4, h5, h6, h7⟩, h8, h9⟩ := h
  have t4 := ht.2.2.2.2.1
  refine ⟨⟨⟨h1, h2⟩, ⟨y1, y2, y3, ht, by omega, y6, y7, y8, y9⟩, ⟨h15, h17⟩, h5, h6, h7⟩, by omega⟩
noncomputable abbrev zzX (sg : Nat → Nat → Nat → Int) (p : Nat) (nw : Nat → Int) (bc : Int) (S1 S2 : sS) : sS × sS × (Nat → Int) := clZ (sg p 1) (sg p 2) nw bc S1 S2 (sg p 3)
noncomputable abbrev zcX (sg : Nat → Nat → Nat → Int) (p : Nat) (nw : Nat → Int) (bc : Int) (S1 S2 : sS) : Int := clA (sg p 1) (sg p 2) nw bc S1 S2 (sg p 3)
theorem LM.close (h : LM n p bc pot gr nw bal T EF CP S1 S2 tx sg) (hp : p < 14) : LH n (p + 1) (zcX sg p nw bc S1 S2) (pot + bookP nw (zzX sg p nw bc S1 S2).2.2 1) (gr + bookG nw (zzX sg p nw bc S1 S2).2.2 1) nw (bookB bal (zzX sg p nw bc S1 S2).2.2 1 n) T (up EF p (T 17)) (up CP p (T 15)) (zzX sg p nw bc S1 S2).1 (zzX sg p nw bc S1 S2).2.1 tx (upS sg p (mkS nw (sg p 1) (sg p 2) (zzX sg p nw bc S1 S2).2.2 bc (zcX sg p nw bc S1 S2))) := by
  obtain ⟨⟨⟨h1, h2⟩, ⟨y1, y2, y3, y4, y5, y6, y7, y8, y9⟩, ⟨h15, h17⟩, h5, h6, h7⟩, h8⟩ := h
  obtain ⟨g1, g2, g3, g4, g5⟩ := y9 p (by omega)
  have k1 := clZ_ok (f := sg p 3) g2 g3 y4 y5 y6 y7
  have k2 := clZ_fl (f := sg p 3) g2 g3 y4 y5 y6 y7
  have k3 := clA_b (f := sg p 3) g2 g3 y4 y5 y6 y7
  have hsl : slOK (mkS nw (sg p 1) (sg p 2) (zzX sg p nw bc S1 S2).2.2 bc (zcX sg p nw bc S1 S2)) := ⟨y4, g2, g3, k2, y5.1, y5.2⟩
  have hfc : fc (mkS nw (sg p 1) (sg p 2) (zzX sg p nw bc S1 S2).2.2 bc (zcX sg p nw bc S1 S2)) := fun m hm k hk => clZ_can hm hk
  have hzb : zb n (mkS nw (sg p 1) (sg p 2) (zzX sg p nw bc S1 S2).2.2 bc (zcX sg p nw bc S1 S2)) := h5 p (by omega)
  have hmb : MB n nw (zzX sg p nw bc S1 S2).2.2 := MB_fc y1 hsl hfc hzb
  refine ⟨⟨⟨h1, by omega⟩, ⟨y1, by omega, by omega, y4, k3, k1.1, k1.2, y8, slOK_upS y9 hsl⟩, ⟨h15, h17⟩, zb_upS h5 hzb, fun s hs => ?_, ?_⟩, ?_, fun s hs => ?_⟩
  · by_cases hsp : s = p
    · subst hsp
      rw [upS_s, con_up s (by omega), up_s, up_s]
      exact ⟨⟨hfc, h8⟩, h17, h15⟩
    · rw [upS_n hsp, con_up s (by omega), up_n hsp, up_n hsp]
      exact h6 s (by omega)
  · rw [bookB_sum, Int.one_mul]
    have hmb : sumN (fun m => (zzX sg p nw bc S1 S2).2.2 (m * 8 + 7)) n + bookP nw (zzX sg p nw bc S1 S2).2.2 1 + bookG nw (zzX sg p nw bc S1 S2).2.2 1 = 0 := hmb
    omega
  · show zcX sg p nw bc S1 S2 = afX (upS sg p _ p)
    rw [upS_s]
    exact clA_can
  · obtain rfl : s = p := by omega
    rw [upS_s]
    rfl
/-! a correction: each slot closed anew in its turn -/
def RI (n k p : Nat) (sg : Nat → Nat → Nat → Int) (i : Nat) (Z : zSt) : Prop :=
  (∀ s, Z.1 s 0 = sg s 0) ∧ (∀ s, s < 48 → zb n (Z.1 s)) ∧ (∀ s, s < p → MB n (Z.1 s 0) (Z.1 s 3)) ∧ (∀ s, s < k + i → fc (Z.1 s) ∧ Z.1 s 4 0 = min (con Z.1 s) (Z.1 s 0 4)) ∧ ((i = 0 → Z.2.2.2.2.2.2 = min (con Z.1 k) (Z.1 k 0 4)) ∧ (0 < i → Z.2.2.2.2.2.2 = con Z.1 (k + i))) ∧ Z.2.2.2.2.1 + Z.2.2.2.2.2.1 + sumN Z.2.2.2.1 n = 0
theorem RI.step {n k p i : Nat} {sg : Nat → Nat → Nat → Int} {Z : zSt} (hn : n ≤ 6) (hp : p ≤ 48) (h : RI n k p sg i Z) (hok : reOK Z) (hj : k + i < p) : RI n k p sg (i + 1) (reX n (k + i) Z) := by
  obtain ⟨r1, r2, r3, r4, ⟨r5, r6⟩, r7⟩ := h
  obtain ⟨o1, o2, o3, o4, o5⟩ := hok
  obtain ⟨g1, g2, g3, g4, g5⟩ := o1 (k + i) (by omega)
  have hc : 0 ≤ min Z.2.2.2.2.2.2 (Z.1 (k + i) 0 4) ∧ min Z.2.2.2.2.2.2 (Z.1 (k + i) 0 4) ≤ Z.1 (k + i) 0 4 := by omega
  have hcm : min Z.2.2.2.2.2.2 (Z.1 (k + i) 0 4) = min (con Z.1 (k + i)) (Z.1 (k + i) 0 4) := by
    rcases Nat.eq_zero_or_pos i with h0 | h0
    · have := r5 h0
      subst h0
      rw [Nat.add_zero] at *
      omega
    · rw [r6 h0]
  have k2 := clZ_fl (f := Z.1 (k + i) 3) g2 g3 g1 hc o2 o3
  have hsl : slOK (mkS (Z.1 (k + i) 0) (Z.1 (k + i) 1) (Z.1 (k + i) 2) (clZ (Z.1 (k + i) 1) (Z.1 (k + i) 2) (Z.1 (k + i) 0) (min Z.2.2.2.2.2.2 (Z.1 (k + i) 0 4)) Z.2.1 Z.2.2.1 (Z.1 (k + i) 3)).2.2 (min Z.2.2.2.2.2.2 (Z.1 (k + i) 0 4)) (clA (Z.1 (k + i) 1) (Z.1 (k + i) 2) (Z.1 (k + i) 0) (min Z.2.2.2.2.2.2 (Z.1 (k + i) 0 4)) Z.2.1 Z.2.2.1 (Z.1 (k + i) 3))) := ⟨g1, g2, g3, k2, hc.1, hc.2⟩
  have hfc : fc (mkS (Z.1 (k + i) 0) (Z.1 (k + i) 1) (Z.1 (k + i) 2) (clZ (Z.1 (k + i) 1) (Z.1 (k + i) 2) (Z.1 (k + i) 0) (min Z.2.2.2.2.2.2 (Z.1 (k + i) 0 4)) Z.2.1 Z.2.2.1 (Z.1 (k + i) 3)).2.2 (min Z.2.2.2.2.2.2 (Z.1 (k + i) 0 4)) (clA (Z.1 (k + i) 1) (Z.1 (k + i) 2) (Z.1 (k + i) 0) (min Z.2.2.2.2.2.2 (Z.1 (k + i) 0 4)) Z.2.1 Z.2.2.1 (Z.1 (k + i) 3))) := fun m hm k hk => clZ_can hm hk
  have hzb : zb n (mkS (Z.1 (k + i) 0) (Z.1 (k + i) 1) (Z.1 (k + i) 2) (clZ (Z.1 (k + i) 1) (Z.1 (k + i) 2) (Z.1 (k + i) 0) (min Z.2.2.2.2.2.2 (Z.1 (k + i) 0 4)) Z.2.1 Z.2.2.1 (Z.1 (k + i) 3)).2.2 (min Z.2.2.2.2.2.2 (Z.1 (k + i) 0 4)) (clA (Z.1 (k + i) 1) (Z.1 (k + i) 2) (Z.1 (k + i) 0) (min Z.2.2.2.2.2.2 (Z.1 (k + i) 0 4)) Z.2.1 Z.2.2.1 (Z.1 (k + i) 3))) := r2 (k + i) (by omega)
  have hmb := MB_fc hn hsl hfc hzb
  refine ⟨fun s => ?_, fun s hs => ?_, fun s hs => ?_, fun s hs => ?_, ⟨fun h0 => absurd h0 (by omega), fun _ => ?_⟩, ?_⟩
  · show upS Z.1 (k + i) _ s 0 = _
    by_cases hsj : s = k + i
    · subst hsj; rw [upS_s]; exact r1 _
    · rw [upS_n hsj]; exact r1 s
  · exact zb_upS r2 hzb s hs
  · show MB n (upS Z.1 (k + i) _ s 0) (upS Z.1 (k + i) _ s 3)
    by_cases hsj : s = k + i
    · subst hsj; rw [upS_s]; exact hmb
    · rw [upS_n hsj]; exact r3 s hs
  · show fc (upS Z.1 (k + i) _ s) ∧ upS Z.1 (k + i) _ s 4 0 = min (con (upS Z.1 (k + i) _) s) (upS Z.1 (k + i) _ s 0 4)
    by_cases hsj : s = k + i
    · subst hsj
      rw [upS_s, con_up _ (Nat.le_refl _)]
      exact ⟨hfc, hcm⟩
    · rw [upS_n hsj, con_up s (by omega)]; exact r4 s (by omega)
  · show clA _ _ _ _ _ _ _ = afX (upS Z.1 (k + i) _ (k + i))
    rw [upS_s]
    exact clA_can
  · have hold : sumN (fun m => Z.1 (k + i) 3 (m * 8 + 7)) n + bookP (Z.1 (k + i) 0) (Z.1 (k + i) 3) 1 + bookG (Z.1 (k + i) 0) (Z.1 (k + i) 3) 1 = 0 := r3 (k + i) hj
    have hnew : sumN (fun m => (clZ (Z.1 (k + i) 1) (Z.1 (k + i) 2) (Z.1 (k + i) 0) (min Z.2.2.2.2.2.2 (Z.1 (k + i) 0 4)) Z.2.1 Z.2.2.1 (Z.1 (k + i) 3)).2.2 (m * 8 + 7)) n + bookP (Z.1 (k + i) 0) (clZ (Z.1 (k + i) 1) (Z.1 (k + i) 2) (Z.1 (k + i) 0) (min Z.2.2.2.2.2.2 (Z.1 (k + i) 0 4)) Z.2.1 Z.2.2.1 (Z.1 (k + i) 3)).2.2 1 + bookG (Z.1 (k + i) 0) (clZ (Z.1 (k + i) 1) (Z.1 (k + i) 2) (Z.1 (k + i) 0) (min Z.2.2.2.2.2.2 (Z.1 (k + i) 0 4)) Z.2.1 Z.2.2.1 (Z.1 (k + i) 3)).2.2 1 = 0 := hmb
    show Z.2.2.2.2.1 + bookP (Z.1 (k + i) 0) (Z.1 (k + i) 3) (-1) + bookP (Z.1 (k + i) 0) _ 1 + (Z.2.2.2.2.2.1 + bookG (Z.1 (k + i) 0) (Z.1 (k + i) 3) (-1) + bookG (Z.1 (k + i) 0) _ 1) + sumN (bookB (bookB Z.2.2.2.1 (Z.1 (k + i) 3) (-1) n) _ 1 n) n = 0
    rw [bookB_sum, bookB_sum, Int.one_mul, bookP_neg, bookG_neg]
    omega
theorem RI_N {n k p : Nat} {sg : Nat → Nat → Nat → Int} {Z : zSt} (hn : n ≤ 6) (hp : p ≤ 48) (h : RI n k p sg 0 Z) (hok : reOK Z) : ∀ i : Nat, k + i ≤ p → RI n k p sg i (reN n k i Z)
  | 0, _ => h
  | i + 1, hi => RI.step hn hp (RI_N hn hp h hok i (by omega)) (reN_ok hok hp i (by omega)) (by omega)
theorem LH.correct (h : LH n p bc pot gr nw bal T EF CP S1 S2 tx sg) {m k : Nat} {a b : Int} (hm : m < n) (hk : k < p) (ha : 0 ≤ a ∧ a ≤ 5000) (hb : 0 ≤ b ∧ b ≤ 5000) {Z : zSt} (hZ : Z = reN n k (p - k) (upS sg k (rmX (sg k) m a b), S1, S2, bal, pot, gr, sg k 4 0)) :
    LH n p (min Z.2.2.2.2.2.2 (nw 4)) Z.2.2.2.2.1 Z.2.2.2.2.2.1 nw Z.2.2.2.1 T EF CP Z.2.1 Z.2.2.1 tx Z.1 := by
  obtain ⟨⟨⟨h1, h2⟩, ⟨y1, y2, y3, y4, y5, y6, y7, y8, y9⟩, h4, h5, h6, h7⟩, h8, h9⟩ := h
  have hk9 := y9 k (by omega)
  have t4 := hk9.1.2.2.2.2.1
  have hs4 := hk9.2.2.2.2
  have hok : reOK (upS sg k (rmX (sg k) m a b), S1, S2, bal, pot, gr, sg k 4 0) := ⟨slOK_upS y9 (slOK_rd hk9 ha hb), y6, y7, hs4.1, by show sg k 4 0 ≤ 20000; omega⟩
  have h0 : RI n k p sg 0 (upS sg k (rmX (sg k) m a b), S1, S2, bal, pot, gr, sg k 4 0) := by
    refine ⟨fun s => ?_, zb_upS h5 (zb_rm (h5 k (by omega)) hm), fun s hs => ?_, fun s hs => ?_, ⟨fun _ => ?_, fun h => absurd h (by omega)⟩, h7⟩
    · show upS sg k _ s 0 = sg s 0
      by_cases hsk : s = k
      · subst hsk; rw [upS_s]; rfl
      · rw [upS_n hsk]
    · show MB n (upS sg k _ s 0) (upS sg k _ s 3)
      have hmb := MB_fc y1 (y9 s (by omega)) (h6 s hs).1.1 (h5 s (by omega))
      by_cases hsk : s = k
      · subst hsk; rw [upS_s]; exact hmb
      · rw [upS_n hsk]; exact hmb
    · show fc (upS sg k _ s) ∧ upS sg k _ s 4 0 = min (con (upS sg k _) s) (upS sg k _ s 0 4)
      rw [upS_n (by omega), con_up s (by omega)]
      exact (h6 s (by omega)).1
    · show sg k 4 0 = min (con (upS sg k _) k) (upS sg k _ k 0 4)
      rw [upS_s, con_up k (Nat.le_refl _)]
      exact (h6 k hk).1.2
  have hR := RI_N y1 y2 h0 hok (p - k) (by omega)
  have hO := reN_ok hok (n := n) (k := k) y2 (p - k) (by omega)
  rw [← hZ] at hR hO
  obtain ⟨r1, r2, r3, r4, ⟨r5, r6⟩, r7⟩ := hR
  obtain ⟨o1, o2, o3, o4, o5⟩ := hO
  have e9 : k + (p - k) = p := by omega
  rw [e9] at r4 r6
  have hcon := r6 (by omega)
  obtain ⟨q, rfl⟩ : ∃ q, p = q + 1 := ⟨p - 1, by omega⟩
  have hcap : Z.1 q 0 4 = nw 4 := by rw [r1 q]; exact h9 q rfl
  have hle : con Z.1 (q + 1) ≤ nw 4 := by
    have := (afX_b (o1 q (by omega))).2
    rw [hcap] at this
    exact this
  have hnw := y4.2.2.2.2.1
  refine ⟨⟨⟨h1, h2⟩, ⟨y1, y2, y3, y4, by omega, o2, o3, y8, o1⟩, h4, r2, fun s hs => ⟨r4 s hs, ?_⟩, r7⟩, by omega, fun s hs => ?_⟩
  · have e := (h6 s hs).2
    rw [r1 s]
    exact e
  · rw [r1 s]; exact h9 s hs
end LIX
