/-! closing anew, on both sides -/
section INVR
variable {n p st : Nat} {bc : Int} {nw bal due : Nat → Int} {S1 S2 : sS} {tx : Nat → Nat → Int} {sg : Nat → Nat → Nat → Int} {NW TE GE US CO FL BA DU : Nat → Int}
theorem INV.close_eq (h : INV n p st bc nw bal due S1 S2 tx sg NW TE GE US CO FL BA DU) (hp : p < 48) :
    clA (sg p 1) (sg p 2) nw bc S1 S2 (sg p 3) = CAft (fun x0 => GE (48 * x0 + p)) (fun x0 => US (48 * x0 + p)) NW bc ∧
    bookP nw (clZ (sg p 1) (sg p 2) nw bc S1 S2 (sg p 3)).2.2 1 = mP NW (CV (fun x0 => GE (48 * x0 + p)) (fun x0 => US (48 * x0 + p)) NW bc) 1 n ∧
    bookG nw (clZ (sg p 1) (sg p 2) nw bc S1 S2 (sg p 3)).2.2 1 = mG NW (CV (fun x0 => GE (48 * x0 + p)) (fun x0 => US (48 * x0 + p)) NW bc) 1 n := by
  obtain ⟨⟨y1, y2, y3, y4, y5, y6, y7, y8, y9⟩, z1, z2, z3, z4⟩ := h
  obtain ⟨g1, g2, g3, g4, g5⟩ := y9 p hp
  obtain ⟨r1, r2, r3, r4⟩ := z4.1 p hp
  have k4 := clZ_48 (S1 := S1) (S2 := S2) (cb := bc) (f := sg p 3) r1 r2 z1
  have k5 := clZ_flN (S1 := S1) (S2 := S2) (f := sg p 3) g2 g3 y4 y5 r3 r4
  exact ⟨clA_eq r1 r2 z1, bP_eq y1 z1 k4 k5, bG_eq y1 z1 k4 k5⟩
theorem re_step {j : Nat} {Z : zSt} {Y : mSt} (hj : j < p) (hp : p ≤ 48) (hn : n ≤ 6) (hZ : reOK Z) (h : relS n p Z.1 TE GE US Y.1 Y.2.1) (hb : eq6 Z.2.2.2.1 Y.2.2.1) (h1 : Z.2.2.2.2.1 = Y.2.2.2.1) (h2 : Z.2.2.2.2.2.1 = Y.2.2.2.2.1) (h3 : Z.2.2.2.2.2.2 = Y.2.2.2.2.2) :
    relS n p (reX n j Z).1 TE GE US (mX TE GE US n j Y).1 (mX TE GE US n j Y).2.1 ∧ eq6 (reX n j Z).2.2.2.1 (mX TE GE US n j Y).2.2.1 ∧ (reX n j Z).2.2.2.2.1 = (mX TE GE US n j Y).2.2.2.1 ∧ (reX n j Z).2.2.2.2.2.1 = (mX TE GE US n j Y).2.2.2.2.1 ∧ (reX n j Z).2.2.2.2.2.2 = (mX TE GE US n j Y).2.2.2.2.2 := by
  obtain ⟨w1, w2, w3, w4, w5⟩ := hZ
  obtain ⟨g1, g2, g3, g4, g5, g6⟩ := w1 j (by omega)
  obtain ⟨r1, r2, r3, r4⟩ := h.1 j (by omega)
  obtain ⟨q1, q2, q3, q4⟩ := h.2 j hj
  have e4 : Z.1 j 0 4 = TE (19 * j + 4) := q1 4 (by omega)
  have hc : 0 ≤ min Z.2.2.2.2.2.2 (Z.1 j 0 4) ∧ min Z.2.2.2.2.2.2 (Z.1 j 0 4) ≤ Z.1 j 0 4 := by omega
  have ec : min Z.2.2.2.2.2.2 (Z.1 j 0 4) = min Y.2.2.2.2.2 (TE (19 * j + 4)) := by rw [h3, e4]
  have k4 := clZ_48 (S1 := Z.2.1) (S2 := Z.2.2.1) (cb := min Z.2.2.2.2.2.2 (Z.1 j 0 4)) (f := Z.1 j 3) r1 r2 q1
  have k5 := clZ_flN (S1 := Z.2.1) (S2 := Z.2.2.1) (f := Z.1 j 3) g2 g3 g1 hc r3 r4
  have k6 := clA_eq (S1 := Z.2.1) (S2 := Z.2.2.1) (cb := min Z.2.2.2.2.2.2 (Z.1 j 0 4)) (f := Z.1 j 3) r1 r2 q1
  have k7 := bookB_eq (x := 1) (bookB_eq (x := -1) hb q2 n hn) k4 n hn
  have p1 := bP_eq (x := -1) hn q1 q2 q4
  have p2 := bP_eq (x := 1) hn q1 k4 k5
  have p3 := bG_eq (x := -1) hn q1 q2 q4
  have p4 := bG_eq (x := 1) hn q1 k4 k5
  have e1 : ∀ q, q ≠ j → (reX n j Z).1 q = Z.1 q := fun q c => upS_n c
  have e2 : (reX n j Z).1 j = mkS (Z.1 j 0) (Z.1 j 1) (Z.1 j 2) (clZ (Z.1 j 1) (Z.1 j 2) (Z.1 j 0) (min Z.2.2.2.2.2.2 (Z.1 j 0 4)) Z.2.1 Z.2.2.1 (Z.1 j 3)).2.2 (min Z.2.2.2.2.2.2 (Z.1 j 0 4)) (clA (Z.1 j 1) (Z.1 j 2) (Z.1 j 0) (min Z.2.2.2.2.2.2 (Z.1 j 0 4)) Z.2.1 Z.2.2.1 (Z.1 j 3)) := upS_s
  have m1 : (mX TE GE US n j Y).1 = up Y.1 j (min Z.2.2.2.2.2.2 (Z.1 j 0 4)) := by rw [ec]; rfl
  have m2 : (mX TE GE US n j Y).2.1 = cpyI (CV (fun m => GE (48 * m + j)) (fun m => US (48 * m + j)) (fun i => TE (19 * j + i)) (min Z.2.2.2.2.2.2 (Z.1 j 0 4))) Y.2.1 0 (48 * j) 48 := by rw [ec]; rfl
  have m3 : (mX TE GE US n j Y).2.2.1 = bookB (bookB Y.2.2.1 (fun i => Y.2.1 (48 * j + i)) (-1) n) (CV (fun m => GE (48 * m + j)) (fun m => US (48 * m + j)) (fun i => TE (19 * j + i)) (min Z.2.2.2.2.2.2 (Z.1 j 0 4))) 1 n := by rw [ec]; rfl
  have m4 : (mX TE GE US n j Y).2.2.2.1 = Y.2.2.2.1 + mP (fun i => TE (19 * j + i)) (fun i => Y.2.1 (48 * j + i)) (-1) n + mP (fun i => TE (19 * j + i)) (CV (fun m => GE (48 * m + j)) (fun m => US (48 * m + j)) (fun i => TE (19 * j + i)) (min Z.2.2.2.2.2.2 (Z.1 j 0 4))) 1 n := by rw [ec]; rfl
  have m5 : (mX TE GE US n j Y).2.2.2.2.1 = Y.2.2.2.2.1 + mG (fun i => TE (19 * j + i)) (fun i => Y.2.1 (48 * j + i)) (-1) n + mG (fun i => TE (19 * j + i)) (CV (fun m => GE (48 * m + j)) (fun m => US (48 * m + j)) (fun i => TE (19 * j + i)) (min Z.2.2.2.2.2.2 (Z.1 j 0 4))) 1 n := by rw [ec]; rfl
  have m6 : (mX TE GE US n j Y).2.2.2.2.2 = CAft (fun m => GE (48 * m + j)) (fun m => US (48 * m + j)) (fun i => TE (19 * j + i)) (min Z.2.2.2.2.2.2 (Z.1 j 0 4)) := by rw [ec]; rfl
  rw [m1, m2, m3, m4, m5, m6]
  refine ⟨⟨fun q hq => ?_, fun q hq => ?_⟩, k7, ?_, ?_, k6⟩
  · by_cases c : q = j
    · rw [c, e2]; exact ⟨r1, r2, r3, r4⟩
    · rw [e1 q c]; exact h.1 q hq
  · by_cases c : q = j
    · rw [c, e2]
      exact ⟨q1, fun i hi => (k4 i hi).trans (cpy_f hi).symm, up_s.symm, k5⟩
    · rw [e1 q c]
      obtain ⟨t1, t2, t3, t4⟩ := h.2 q hq
      exact ⟨t1, fun i hi => (t2 i hi).trans (cpy_o (by omega)).symm, t3.trans (up_n c).symm, t4⟩
  · rw [← h1, ← p1, ← p2]; rfl
  · rw [← h2, ← p3, ← p4]; rfl
theorem re_all {k : Nat} {Z : zSt} {Y : mSt} (hp : p ≤ 48) (hn : n ≤ 6) (hZ : reOK Z) (h : relS n p Z.1 TE GE US Y.1 Y.2.1) (hb : eq6 Z.2.2.2.1 Y.2.2.1) (h1 : Z.2.2.2.2.1 = Y.2.2.2.1) (h2 : Z.2.2.2.2.2.1 = Y.2.2.2.2.1) (h3 : Z.2.2.2.2.2.2 = Y.2.2.2.2.2) : ∀ i : Nat, k + i ≤ p →
    relS n p (reN n k i Z).1 TE GE US (reM TE GE US n k i Y).1 (reM TE GE US n k i Y).2.1 ∧ eq6 (reN n k i Z).2.2.2.1 (reM TE GE US n k i Y).2.2.1 ∧ (reN n k i Z).2.2.2.2.1 = (reM TE GE US n k i Y).2.2.2.1 ∧ (reN n k i Z).2.2.2.2.2.1 = (reM TE GE US n k i Y).2.2.2.2.1 ∧ (reN n k i Z).2.2.2.2.2.2 = (reM TE GE US n k i Y).2.2.2.2.2
  | 0, _ => ⟨h, hb, h1, h2, h3⟩
  | i + 1, hi => by
    obtain ⟨a1, a2, a3, a4, a5⟩ := re_all (k := k) hp hn hZ h hb h1 h2 h3 i (by omega)
    exact re_step (j := k + i) (by omega) hp hn (reN_ok hZ hp i (by omega)) a1 a2 a3 a4 a5
/-- what correcting does, on both sides -/
theorem INV.correct {m k : Nat} {a b pot gr : Int} (h : INV n p st bc nw bal due S1 S2 tx sg NW TE GE US CO FL BA DU) (hm : m < n) (hkp : k < p) (ha : 0 ≤ a ∧ a ≤ 5000) (hb : 0 ≤ b ∧ b ≤ 5000) {Z : zSt} {Y : mSt}
    (eZ : Z = reN n k (p - k) (upS sg k (mkS (sg k 0) (up (sg k 1) m a) (up (sg k 2) m b) (sg k 3) (sg k 4 0) (sg k 4 1)), S1, S2, bal, pot, gr, sg k 4 0)) (eY : Y = reM TE (up GE (48 * m + k) a) (up US (48 * m + k) b) n k (p - k) (CO, FL, BA, pot, gr, CO k)) :
    INV n p st (min Z.2.2.2.2.2.2 (nw 4)) nw Z.2.2.2.1 due Z.2.1 Z.2.2.1 tx Z.1 NW TE (up GE (48 * m + k) a) (up US (48 * m + k) b) Y.1 Y.2.1 Y.2.2.1 DU ∧ Z.2.2.2.2.1 = Y.2.2.2.1 ∧ Z.2.2.2.2.2.1 = Y.2.2.2.2.1 ∧ min Z.2.2.2.2.2.2 (nw 4) = min Y.2.2.2.2.2 (NW 4) ∧ Z.2.2.2.1 m - bal m = Y.2.2.1 m - BA m := by
  have hk : k < 48 := by have := h.1.2.1; omega
  obtain ⟨⟨y1, y2, y3, y4, y5, y6, y7, y8, y9⟩, z1, z2, z3, z4⟩ := h
  have s0 := y9 k hk
  have w0 : reOK (upS sg k (mkS (sg k 0) (up (sg k 1) m a) (up (sg k 2) m b) (sg k 3) (sg k 4 0) (sg k 4 1)), S1, S2, bal, pot, gr, sg k 4 0) :=
    ⟨slOK_upS y9 (slOK_rd s0 ha hb), y6, y7, s0.2.2.2.2.1, by
      show sg k 4 0 ≤ 20000
      have b1 := s0.2.2.2.2.2
      have b2 := s0.1.2.2.2.2.1
      omega⟩
  have w1 := reN_ok (n := n) (k := k) w0 y2 (p - k) (by omega)
  obtain ⟨a1, a2, a3, a4, a5⟩ := re_all (TE := TE) (GE := up GE (48 * m + k) a) (US := up US (48 * m + k) b) (Y := (CO, FL, BA, pot, gr, CO k)) (k := k) y2 y1 w0 (rel_set z4 hm y1 hk) z2 rfl rfl (z4.2 k hkp).2.2.1 (p - k) (by omega)
  rw [← eZ] at w1 a1 a2 a3 a4 a5
  rw [← eY] at a1 a2 a3 a4 a5
  obtain ⟨w2, w3, w4, w5, w6⟩ := w1
  have b4 := y4.2.2.2.2.1
  refine ⟨⟨⟨y1, y2, y3, y4, by omega, w3, w4, y8, w2⟩, z1, a2, z3, a1⟩, a3, a4, by rw [a5, z1 4 (by omega)], by rw [a2 m (by omega), z2 m (by omega)]⟩
/-! settling, the late, the digest, the independence -/
theorem setB_eq {bl bl' : Nat → Int} (h : eq6 bl bl') : ∀ q : Nat, eq6 (setB bl q) (setB bl' q)
  | 0 => h
  | q + 1 => eq6_up (setB_eq h q) rfl
theorem setD_eq {bl bl' du du' : Nat → Int} {fee : Int} (h : eq6 bl bl') (h2 : eq6 du du') : ∀ q : Nat, q ≤ 6 → eq6 (setD bl du fee q) (setD bl' du' fee q)
  | 0, _ => h2
  | q + 1, hq => by
    have ih := setD_eq (fee := fee) h h2 q (by omega)
    exact eq6_up ih (by rw [ih q (by omega), h q (by omega)])
theorem lateN_eq {du du' : Nat → Int} {a : Int} (h : eq6 du du') : ∀ q : Nat, q ≤ 6 → lateN du a q = lateN du' a q
  | 0, _ => rfl
  | q + 1, hq => by
    show (if _ then _ else _) = (if _ then _ else _)
    rw [lateN_eq h q (by omega), h q (by omega)]
theorem mixF_eq {f f' : Nat → Int} {m : Nat} {d : Int} (hm : m < 6) (h : ∀ i, i < 48 → f i = f' i) : ∀ q : Nat, q ≤ 8 → mixF f m d q = mixF f' m d q
  | 0, _ => rfl
  | q + 1, hq => by
    show mixF f m d q * 31 + f (m * 8 + q) = mixF f' m d q * 31 + f' (m * 8 + q)
    rw [mixF_eq hm h q (by omega), h _ (by omega)]
theorem mixM_eq {g g' u u' f f' : Nat → Int} {d d' : Int} (hd : d = d') (hg : eq6 g g') (hu : eq6 u u') (h : ∀ i, i < 48 → f i = f' i) : ∀ q : Nat, q ≤ 6 → mixM g u f d q = mixM g' u' f' d' q
  | 0, _ => hd
  | q + 1, hq => by
    show mixF f q ((mixM g u f d q * 31 + g q) * 31 + u q) 8 = mixF f' q ((mixM g' u' f' d' q * 31 + g' q) * 31 + u' q) 8
    rw [mixM_eq hd hg hu h q (by omega), hg q (by omega), hu q (by omega), mixF_eq (by omega) h 8 (by omega)]
theorem digM_eq {nw' bal' due' : Nat → Int} {d d' : Int} (hd : d = d') (h1 : t19 nw nw') (h2 : eq6 bal bal') (h3 : eq6 due due') : ∀ q : Nat, q ≤ 6 → digM nw bal due d q = digM nw' bal' due' d' q
  | 0, _ => hd
  | q + 1, hq => by
    show (((digM nw bal due d q * 31 + nw (7 + q)) * 31 + nw (13 + q)) * 31 + bal q) * 31 + due q = (((digM nw' bal' due' d' q * 31 + nw' (7 + q)) * 31 + nw' (13 + q)) * 31 + bal' q) * 31 + due' q
    rw [digM_eq hd h1 h2 h3 q (by omega), h1 (7 + q) (by omega), h1 (13 + q) (by omega), h2 q (by omega), h3 q (by omega)]
theorem digS_eq {T : Nat → Int} {d d' : Int} (hd : d = d') (hn : n ≤ 6) (hp : p ≤ 48) (h : relS n p sg TE GE US CO FL) : ∀ q : Nat, q ≤ p → digS sg n d q = digS (sgM T GE US CO FL) n d' q
  | 0, _ => hd
  | q + 1, hq => by
    obtain ⟨r1, r2, r3, r4⟩ := h.1 q (by omega)
    obtain ⟨q1, q2, q3, q4⟩ := h.2 q (by omega)
    exact mixM_eq (by rw [digS_eq (T := T) hd hn hp h q (by omega), q3]; rfl) r1 r2 q2 n hn
theorem INV.dig {cc pot gr bk : Int} (h : INV n p st bc nw bal due S1 S2 tx sg NW TE GE US CO FL BA DU) {T : Nat → Int} : digX n p st cc bc pot gr bk nw bal due sg = digX n p st cc bc pot gr bk NW BA DU (sgM T GE US CO FL) := by
  obtain ⟨⟨y1, y2, y3, y4, y5, y6, y7, y8, y9⟩, z1, z2, z3, z4⟩ := h
  unfold digX
  rw [digS_eq (T := T) (by rw [digM_eq (by rw [z1 0 (by omega)]) z1 z2 z3 n y1]) y1 y2 z4 p (Nat.le_refl _)]
theorem INV.ind1 (h : INV n p st bc nw bal due S1 S2 tx sg NW TE GE US CO FL BA DU) : sumN (fun s9 => sumN (sg s9 2) 6) p = sumN (fun s9 => sumN (fun x0 => US (48 * x0 + s9)) n) p := by
  obtain ⟨⟨y1, y2, y3, y4, y5, y6, y7, y8, y9⟩, z1, z2, z3, z4⟩ := h
  refine sumN_congr p (fun j hj => ?_)
  obtain ⟨r1, r2, r3, r4⟩ := z4.1 j (by omega)
  show sumN (sg j 2) 6 = sumN (fun x0 => US (48 * x0 + j)) n
  rw [sumN_6 y1 (nul_eq r2 r4)]
  exact sumN_congr 6 r2
theorem INV.ind2 (h : INV n p st bc nw bal due S1 S2 tx sg NW TE GE US CO FL BA DU) : sumN (fun s9 => sumN (fun m9 => sg s9 3 (m9 * 8 + 3)) 6) p = sumN (fun s9 => sumN (fun x0 => FL (48 * s9 + (x0 * 8 + 3))) n) p := by
  obtain ⟨⟨y1, y2, y3, y4, y5, y6, y7, y8, y9⟩, z1, z2, z3, z4⟩ := h
  refine sumN_congr p (fun j hj => ?_)
  obtain ⟨r1, r2, r3, r4⟩ := z4.2 j hj
  show sumN (fun m9 => sg j 3 (m9 * 8 + 3)) 6 = sumN (fun x0 => FL (48 * j + (x0 * 8 + 3))) n
  rw [← sumN_6 y1 (R := fun m9 => sg j 3 (m9 * 8 + 3)) (fun k h1 h2 => r4 k h1 h2 3 (by omega))]
  exact sumN_congr n (fun k hk => r2 _ (by omega))
theorem sumN_add (A B : Nat → Int) : ∀ q : Nat, sumN (fun k => A k + B k) q = sumN A q + sumN B q
  | 0 => rfl
  | q + 1 => by
    show sumN (fun k => A k + B k) q + (A q + B q) = (sumN A q + A q) + (sumN B q + B q)
    rw [sumN_add A B q]
    omega
theorem cF_1 {g u t : Nat → Int} {cb : Int} {m : Nat} : cF g u t cb (m * 8 + 1) = (cB1 g u t).2.2 m := by
  show (if (m * 8 + 1) % 8 = 0 then _ else if (m * 8 + 1) % 8 = 1 then (cB1 g u t).2.2 ((m * 8 + 1) / 8) else _) = _
  rw [if_neg (by omega), if_pos (by omega), show (m * 8 + 1) / 8 = m by omega]
theorem CV_bet {g u t : Nat → Int} {cb : Int} (hg : rdOK g) (hu : rdOK u) (ht : tOK t) : sumN (fun m => CV g u t cb (m * 8 + 1)) 6 = betW g u := by
  obtain ⟨b1, b2, b3⟩ := cB1_ok hg hu ht
  have e1 : sumN (fun m => CV g u t cb (m * 8 + 1)) 6 = sumN (cB1 g u t).2.2 6 := sumN_congr 6 (fun k hk => (CV_k (by omega)).trans cF_1)
  have e2 := sumN_add (cB1 g u t).2.1 (cB1 g u t).2.2 6
  have e3 : sumN (fun k => (cB1 g u t).2.1 k + (cB1 g u t).2.2 k) 6 = sumN (neeF g u) 6 := sumN_congr 6 (fun k hk => (b2 k hk).2)
  omega
/-- the answer of closing -/
theorem INV.close_ans (h : INV n p st bc nw bal due S1 S2 tx sg NW TE GE US CO FL BA DU) (hp : p < 48) : sumN (fun m => (clZ (sg p 1) (sg p 2) nw bc S1 S2 (sg p 3)).2.2 (m * 8 + 1)) 6 = betW (fun x0 => GE (48 * x0 + p)) (fun x0 => US (48 * x0 + p)) := by
  have hr := h.rows p hp
  have ht := h.ht
  obtain ⟨⟨y1, y2, y3, y4, y5, y6, y7, y8, y9⟩, z1, z2, z3, z4⟩ := h
  obtain ⟨r1, r2, r3, r4⟩ := z4.1 p hp
  have k4 := clZ_48 (S1 := S1) (S2 := S2) (cb := bc) (f := sg p 3) r1 r2 z1
  rw [← CV_bet (cb := bc) hr.1 hr.2.1 ht]
  exact sumN_congr 6 (fun k hk => k4 _ (by omega))
/-- what a rule would bring -/
theorem INV.would_ans (h : INV n p st bc nw bal due S1 S2 tx sg NW TE GE US CO FL BA DU) (hp : p < 48) {m : Nat} (hm : m < 6) {ru : Int} : CV (sg p 1) (sg p 2) (up nw 0 ru) bc (m * 8 + 7) = CV (fun x0 => GE (48 * x0 + p)) (fun x0 => US (48 * x0 + p)) (up NW 0 ru) bc (m * 8 + 7) := by
  obtain ⟨⟨y1, y2, y3, y4, y5, y6, y7, y8, y9⟩, z1, z2, z3, z4⟩ := h
  obtain ⟨r1, r2, r3, r4⟩ := z4.1 p hp
  exact CV_eq r1 r2 (t19_up z1) hm (by omega)
theorem bsN_eq {F F' : Nat → Int} (h : ∀ r, F r = F' r) : bsN F = bsN F' := by rw [show F = F' from funext h]
theorem INV.best_ans (h : INV n p st bc nw bal due S1 S2 tx sg NW TE GE US CO FL BA DU) (hp : p < 48) {m : Nat} (hm : m < 6) : (bsN (fun r7 => CV (sg p 1) (sg p 2) (up nw 0 ((r7 : Nat) : Int)) bc (m * 8 + 7)) 4).1 = (bsN (fun r7 => CV (fun x0 => GE (48 * x0 + p)) (fun x0 => US (48 * x0 + p)) (up NW 0 ((r7 : Nat) : Int)) bc (m * 8 + 7)) 4).1 := by
  rw [bsN_eq (fun r => h.would_ans hp hm)]
/-- ranges of answers -/
theorem INV.CVb (h : INV n p st bc nw bal due S1 S2 tx sg NW TE GE US CO FL BA DU) (hp : p < 48) {m : Nat} (hm : m < 6) {ru : Int} (hru : 0 ≤ ru ∧ ru ≤ 3) : rng (CV (fun x0 => GE (48 * x0 + p)) (fun x0 => US (48 * x0 + p)) (up NW 0 ru) bc (m * 8 + 7)) := by
  have hr := h.rows p hp
  have ht := tOK_rule h.ht hru
  have e4 := h.2.1 4 (by omega)
  have y5 := h.1.2.2.2.2.1
  have hb := (CV_fl hr.1 hr.2.1 ht (cb := bc) (by rw [up_n (by decide), ← e4]; exact y5)).2 m hm
  unfold rng
  omega
theorem INV.bsb (h : INV n p st bc nw bal due S1 S2 tx sg NW TE GE US CO FL BA DU) {F : Nat → Int} : rng (bsN F 4).1 := by
  obtain ⟨r, hr, e⟩ := bsN_v (F := F) 3
  rw [e]
  exact ⟨by omega, by omega⟩
theorem INV.betb (h : INV n p st bc nw bal due S1 S2 tx sg NW TE GE US CO FL BA DU) (hp : p < 48) : rng (betW (fun x0 => GE (48 * x0 + p)) (fun x0 => US (48 * x0 + p))) := by
  have hr := h.rows p hp
  have hb := bet_b hr.1 hr.2.1
  unfold rng
  omega
theorem lateN_rng {du : Nat → Int} {a : Int} (hn : n ≤ 6) : rng ((lateN du a n : Nat) : Int) := by
  have h1 := lateN_b du a n
  have h2 : 2 ^ n ≤ 2 ^ 6 := Nat.pow_le_pow_right (by decide) hn
  unfold rng
  omega
end INVR
