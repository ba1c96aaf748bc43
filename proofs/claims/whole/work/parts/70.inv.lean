/-! the two sides, held against each other -/
def tLo (k : Nat) : Int := if k = 6 then 1 else 0
def tHi (k : Nat) : Int := if k = 0 then 3 else if k < 4 then 100 else if k = 4 then 20000 else if k = 5 then 5000 else if k < 13 then 100 else 99
theorem tLo_7 {k : Nat} (h : 7 ≤ k) : tLo k = 0 := if_neg (by omega)
theorem tHi_7 {k : Nat} (h : 7 ≤ k) (h2 : k < 13) : tHi k = 100 := by unfold tHi; rw [if_neg (by omega), if_neg (by omega), if_neg (by omega), if_neg (by omega), if_pos h2]
theorem tHi_13 {k : Nat} (h : 13 ≤ k) : tHi k = 99 := by unfold tHi; rw [if_neg (by omega), if_neg (by omega), if_neg (by omega), if_neg (by omega), if_neg (by omega)]
theorem tOK_of {t : Nat → Int} (h : ∀ k, k < 19 → tLo k ≤ t k ∧ t k ≤ tHi k) : tOK t := by
  refine ⟨h 0 (by omega), h 1 (by omega), h 2 (by omega), h 3 (by omega), h 4 (by omega), h 5 (by omega), h 6 (by omega), fun k hk => ?_, fun k hk => ?_⟩
  · have h9 := h (7 + k) (by omega)
    rw [tLo_7 (by omega), tHi_7 (by omega) (by omega)] at h9
    exact h9
  · have h9 := h (13 + k) (by omega)
    rw [tLo_7 (by omega), tHi_13 (by omega)] at h9
    exact h9
theorem tOK_to {t : Nat → Int} (h : tOK t) : ∀ k, k < 19 → tLo k ≤ t k ∧ t k ≤ tHi k := by
  obtain ⟨h0, h1, h2, h3, h4, h5, h6, h7, h8⟩ := h
  intro k hk
  by_cases c : k < 7
  · have h9 : k = 0 ∨ k = 1 ∨ k = 2 ∨ k = 3 ∨ k = 4 ∨ k = 5 ∨ k = 6 := by omega
    rcases h9 with rfl | rfl | rfl | rfl | rfl | rfl | rfl
    · exact h0
    · exact h1
    · exact h2
    · exact h3
    · exact h4
    · exact h5
    · exact h6
  · by_cases c2 : k < 13
    · have h9 := h7 (k - 7) (by omega)
      rw [show 7 + (k - 7) = k by omega] at h9
      rw [tLo_7 (by omega), tHi_7 (by omega) c2]
      exact h9
    · have h9 := h8 (k - 13) (by omega)
      rw [show 13 + (k - 13) = k by omega] at h9
      rw [tLo_7 (by omega), tHi_13 (by omega)]
      exact h9
theorem tOK_up {t : Nat → Int} (h : tOK t) {k : Nat} {a : Int} (ha : tLo k ≤ a ∧ a ≤ tHi k) : tOK (up t k a) := tOK_of (fun j hj => by
  unfold up
  split
  · rename_i e; rw [e]; exact ha
  · exact tOK_to h j hj)
theorem t19_up {t t' : Nat → Int} (h : t19 t t') {k : Nat} {a : Int} : t19 (up t k a) (up t' k a) := fun j hj => by
  unfold up
  split
  · rfl
  · exact h j hj
theorem eq6_up {t t' : Nat → Int} (h : eq6 t t') {k : Nat} {a b : Int} (hab : a = b) : eq6 (up t k a) (up t' k b) := fun j hj => by
  unfold up
  split
  · exact hab
  · exact h j hj
theorem t19.symm {t t' : Nat → Int} (h : t19 t t') : t19 t' t := fun k hk => (h k hk).symm
theorem rd_eq {g g' : Nat → Int} (h : eq6 g g') (hg : rdOK g) : rdOK g' := fun k hk => by rw [← h k hk]; exact hg k hk
theorem nul_eq {n : Nat} {g g' : Nat → Int} (h : eq6 g g') (hg : nul n g) : nul n g' := fun k h1 h2 => by rw [← h k h2]; exact hg k h1 h2
theorem nul_le {n n' : Nat} (h : n ≤ n') {g : Nat → Int} (hg : nul n g) : nul n' g := fun k h1 h2 => hg k (by omega) h2
def relS (n p : Nat) (sg : Nat → Nat → Nat → Int) (TE GE US CO FL : Nat → Int) : Prop :=
  (∀ j, j < 48 → eq6 (sg j 1) (fun x0 => GE (48 * x0 + j)) ∧ eq6 (sg j 2) (fun x0 => US (48 * x0 + j)) ∧ nul n (sg j 1) ∧ nul n (sg j 2)) ∧
  ∀ j, j < p → t19 (sg j 0) (fun i => TE (19 * j + i)) ∧ (∀ i, i < 48 → sg j 3 i = FL (48 * j + i)) ∧ sg j 4 0 = CO j ∧ flN n (sg j 3)
def INV (n p st : Nat) (bc : Int) (nw bal due : Nat → Int) (S1 S2 : sS) (tx : Nat → Nat → Int) (sg : Nat → Nat → Nat → Int) (NW TE GE US CO FL BA DU : Nat → Int) : Prop :=
  xOK n p st bc nw S1 S2 tx sg ∧ t19 nw NW ∧ eq6 bal BA ∧ eq6 due DU ∧ relS n p sg TE GE US CO FL
section INVS
variable {n p st : Nat} {bc : Int} {nw bal due : Nat → Int} {S1 S2 : sS} {tx : Nat → Nat → Int} {sg : Nat → Nat → Nat → Int} {NW TE GE US CO FL BA DU : Nat → Int}
theorem INV.ht (h : INV n p st bc nw bal due S1 S2 tx sg NW TE GE US CO FL BA DU) : tOK NW := tOK_19 h.2.1.symm h.1.2.2.2.1
theorem INV.rows (h : INV n p st bc nw bal due S1 S2 tx sg NW TE GE US CO FL BA DU) : rowsOK n GE US := fun j hj => by
  obtain ⟨r1, r2, r3, r4⟩ := h.2.2.2.2.1 j hj
  have s := h.1.2.2.2.2.2.2.2.2 j hj
  exact ⟨rd_eq r1 s.2.1, rd_eq r2 s.2.2.1, nul_eq r1 r3, nul_eq r2 r4⟩
theorem rel_T (hs : ∀ j, j < 48 → slOK (sg j)) (hp : p ≤ 48) (h : relS n p sg TE GE US CO FL) : ∀ j, j < p → tOK (fun i => TE (19 * j + i)) ∧ flOK (fun i => FL (48 * j + i)) ∧ 0 ≤ CO j ∧ CO j ≤ 20000 := fun j hj => by
  obtain ⟨r1, r2, r3, r4⟩ := h.2 j hj
  obtain ⟨s0, s1, s2, s3, s4, s5⟩ := hs j (by omega)
  have b4 := s0.2.2.2.2.1
  exact ⟨tOK_19 r1.symm s0, fl_congr r2 s3, by omega, by omega⟩
theorem INV.T (h : INV n p st bc nw bal due S1 S2 tx sg NW TE GE US CO FL BA DU) : ∀ j, j < p → tOK (fun i => TE (19 * j + i)) ∧ flOK (fun i => FL (48 * j + i)) ∧ 0 ≤ CO j ∧ CO j ≤ 20000 := rel_T h.1.2.2.2.2.2.2.2.2 h.1.2.1 h.2.2.2.2
theorem INV.set {bc' : Int} {nw' NW' : Nat → Int} (h : INV n p st bc nw bal due S1 S2 tx sg NW TE GE US CO FL BA DU) (ht : tOK nw') (h9 : t19 nw' NW') (hb : 0 ≤ bc' ∧ bc' ≤ nw' 4) : INV n p st bc' nw' bal due S1 S2 tx sg NW' TE GE US CO FL BA DU := by
  obtain ⟨⟨y1, y2, y3, y4, y5, y6, y7, y8, y9⟩, z1, z2, z3, z4⟩ := h
  exact ⟨⟨y1, y2, y3, ht, hb, y6, y7, y8, y9⟩, h9, z2, z3, z4⟩
theorem INV.bk {st' : Nat} {bal' due' BA' DU' : Nat → Int} (h : INV n p st bc nw bal due S1 S2 tx sg NW TE GE US CO FL BA DU) (hs : st' ≤ p) (h1 : eq6 bal' BA') (h2 : eq6 due' DU') : INV n p st' bc nw bal' due' S1 S2 tx sg NW TE GE US CO FL BA' DU' := by
  obtain ⟨⟨y1, y2, y3, y4, y5, y6, y7, y8, y9⟩, z1, z2, z3, z4⟩ := h
  exact ⟨⟨y1, y2, hs, y4, y5, y6, y7, y8, y9⟩, z1, h1, h2, z4⟩
theorem INV.tx9 {tx' : Nat → Nat → Int} {A9 B9 : sS} (h : INV n p st bc nw bal due S1 S2 tx sg NW TE GE US CO FL BA DU) (h1 : slOK tx') (h2 : sOK A9) (h3 : sOK B9) : INV n p st bc nw bal due A9 B9 tx' sg NW TE GE US CO FL BA DU := by
  obtain ⟨⟨y1, y2, y3, y4, y5, y6, y7, y8, y9⟩, z1, z2, z3, z4⟩ := h
  exact ⟨⟨y1, y2, y3, y4, y5, h2, h3, h1, y9⟩, z1, z2, z3, z4⟩
theorem INV.add (h : INV n p st bc nw bal due S1 S2 tx sg NW TE GE US CO FL BA DU) (hn : n < 6) (hp : p = 0) : INV (n + 1) p st bc (up (up nw (7 + n) 10) (13 + n) n) bal due S1 S2 tx sg (up (up NW (7 + n) 10) (13 + n) n) TE GE US CO FL BA DU := by
  obtain ⟨⟨y1, y2, y3, y4, y5, y6, y7, y8, y9⟩, z1, z2, z3, z4⟩ := h
  refine ⟨⟨by omega, y2, y3, tOK_up (tOK_up y4 ?_) ?_, ?_, y6, y7, y8, y9⟩, t19_up (t19_up z1), z2, z3, ⟨fun j hj => ?_, fun j hj => absurd hj (by omega)⟩⟩
  · rw [tLo_7 (by omega), tHi_7 (by omega) (by omega)]; decide
  · rw [tLo_7 (by omega), tHi_13 (by omega)]; omega
  · rw [up_n (by omega), up_n (by omega)]; exact y5
  · obtain ⟨r1, r2, r3, r4⟩ := z4.1 j hj
    exact ⟨r1, r2, nul_le (by omega) r3, nul_le (by omega) r4⟩
theorem rel_set {m k : Nat} {a b : Int} (h : relS n p sg TE GE US CO FL) (hm : m < n) (hn : n ≤ 6) (hk : k < 48) : relS n p (upS sg k (mkS (sg k 0) (up (sg k 1) m a) (up (sg k 2) m b) (sg k 3) (sg k 4 0) (sg k 4 1))) TE (up GE (48 * m + k) a) (up US (48 * m + k) b) CO FL := by
  have hE : ∀ {g G : Nat → Int} {x : Int}, eq6 g (fun x0 => G (48 * x0 + k)) → eq6 (up g m x) (fun x0 => up G (48 * m + k) x (48 * x0 + k)) := fun {g G x} he q hq => by
    show (if q = m then x else g q) = (if 48 * q + k = 48 * m + k then x else G (48 * q + k))
    by_cases c : q = m
    · rw [if_pos c, if_pos (by omega)]
    · rw [if_neg c, if_neg (by omega)]; exact he q hq
  have hO : ∀ {j : Nat} {g G : Nat → Int} {x : Int}, j < 48 → j ≠ k → eq6 g (fun x0 => G (48 * x0 + j)) → eq6 g (fun x0 => up G (48 * m + k) x (48 * x0 + j)) := fun {j g G x} hj hjk he q hq => by
    show g q = (if 48 * q + j = 48 * m + k then x else G (48 * q + j))
    rw [if_neg (by omega)]; exact he q hq
  have hU : ∀ {g : Nat → Int} {x : Int}, nul n g → nul n (up g m x) := fun {g x} hg q h1 h2 => by
    rw [up_n (by omega)]; exact hg q h1 h2
  refine ⟨fun j hj => ?_, fun j hj => ?_⟩
  · by_cases c : j = k
    · subst c
      rw [upS_s]
      obtain ⟨r1, r2, r3, r4⟩ := h.1 j hj
      exact ⟨hE r1, hE r2, hU r3, hU r4⟩
    · rw [upS_n c]
      obtain ⟨r1, r2, r3, r4⟩ := h.1 j hj
      exact ⟨hO hj c r1, hO hj c r2, r3, r4⟩
  · by_cases c : j = k
    · subst c
      rw [upS_s]
      exact h.2 j hj
    · rw [upS_n c]
      exact h.2 j hj
theorem INV.meter {m k : Nat} {a b : Int} (h : INV n p st bc nw bal due S1 S2 tx sg NW TE GE US CO FL BA DU) (hm : m < n) (hk : k < 48) (ha : 0 ≤ a ∧ a ≤ 5000) (hb : 0 ≤ b ∧ b ≤ 5000) : INV n p st bc nw bal due S1 S2 tx (upS sg k (mkS (sg k 0) (up (sg k 1) m a) (up (sg k 2) m b) (sg k 3) (sg k 4 0) (sg k 4 1))) NW TE (up GE (48 * m + k) a) (up US (48 * m + k) b) CO FL BA DU := by
  obtain ⟨⟨y1, y2, y3, y4, y5, y6, y7, y8, y9⟩, z1, z2, z3, z4⟩ := h
  exact ⟨⟨y1, y2, y3, y4, y5, y6, y7, y8, slOK_upS y9 (slOK_rd (y9 k hk) ha hb)⟩, z1, z2, z3, rel_set z4 hm y1 hk⟩
/-- the flows of a closing, on both sides -/
theorem clZ_48 {g g' u u' t t' : Nat → Int} {cb : Int} {f : Nat → Int} (hg : eq6 g g') (hu : eq6 u u') (ht : t19 t t') : ∀ i, i < 48 → (clZ g u t cb S1 S2 f).2.2 i = CV g' u' t' cb i := fun i hi => by
  have h1 := clZ_can (g := g) (u := u) (t := t) (cb := cb) (S1 := S1) (S2 := S2) (f := f) (m := i / 8) (k := i % 8) (by omega) (by omega)
  have h2 := CV_eq (cb := cb) hg hu ht (m := i / 8) (k := i % 8) (by omega) (by omega)
  rw [show i / 8 * 8 + i % 8 = i by omega] at h1 h2
  exact h1.trans h2
theorem clA_eq {g g' u u' t t' : Nat → Int} {cb : Int} {f : Nat → Int} (hg : eq6 g g') (hu : eq6 u u') (ht : t19 t t') : clA g u t cb S1 S2 f = CAft g' u' t' cb := clA_can.trans (CAft_eq hg hu ht)
theorem clZ_flN {g u t : Nat → Int} {cb : Int} {f : Nat → Int} (hg : rdOK g) (hu : rdOK u) (ht : tOK t) (hc : 0 ≤ cb ∧ cb ≤ t 4) (h1 : nul n g) (h2 : nul n u) : flN n (clZ g u t cb S1 S2 f).2.2 := fun m hm h6 k hk => by
  rw [clZ_can h6 hk]
  exact CV_0 hg hu ht hc h6 (h1 m hm h6) (h2 m hm h6) hk
theorem bookB_eq {bl bl' f f' : Nat → Int} {x : Int} (hb : eq6 bl bl') (hf : ∀ i, i < 48 → f i = f' i) : ∀ q : Nat, q ≤ 6 → eq6 (bookB bl f x q) (bookB bl' f' x q)
  | 0, _ => hb
  | q + 1, hq => by
    have ih := bookB_eq (x := x) hb hf q (by omega)
    exact eq6_up ih (by rw [ih q (by omega), hf _ (by omega)])
theorem bP_eq {t t' f f' : Nat → Int} {x : Int} (hn : n ≤ 6) (ht : t19 t t') (hf : ∀ i, i < 48 → f i = f' i) (h0 : flN n f) : bookP t f x = mP t' f' x n := by
  rw [← mP_book hn h0, mP_t ht, mP_congr hf hn]
theorem bG_eq {t t' f f' : Nat → Int} {x : Int} (hn : n ≤ 6) (ht : t19 t t') (hf : ∀ i, i < 48 → f i = f' i) (h0 : flN n f) : bookG t f x = mG t' f' x n := by
  rw [← mG_book hn h0, mG_t ht, mG_congr hf hn]
theorem INV.close (h : INV n p st bc nw bal due S1 S2 tx sg NW TE GE US CO FL BA DU) (hp : p < 48) :
    INV n (p + 1) st (clA (sg p 1) (sg p 2) nw bc S1 S2 (sg p 3)) nw (bookB bal (clZ (sg p 1) (sg p 2) nw bc S1 S2 (sg p 3)).2.2 1 n) due (clZ (sg p 1) (sg p 2) nw bc S1 S2 (sg p 3)).1 (clZ (sg p 1) (sg p 2) nw bc S1 S2 (sg p 3)).2.1 tx (upS sg p (mkS nw (sg p 1) (sg p 2) (clZ (sg p 1) (sg p 2) nw bc S1 S2 (sg p 3)).2.2 bc (clA (sg p 1) (sg p 2) nw bc S1 S2 (sg p 3))))
      NW (cpyI NW TE 0 (19 * p) 19) GE US (up CO p bc) (cpyI (CV (fun x0 => GE (48 * x0 + p)) (fun x0 => US (48 * x0 + p)) NW bc) FL 0 (48 * p) 48) (bookB BA (CV (fun x0 => GE (48 * x0 + p)) (fun x0 => US (48 * x0 + p)) NW bc) 1 n) DU := by
  obtain ⟨⟨y1, y2, y3, y4, y5, y6, y7, y8, y9⟩, z1, z2, z3, z4⟩ := h
  obtain ⟨g1, g2, g3, g4, g5⟩ := y9 p hp
  obtain ⟨r1, r2, r3, r4⟩ := z4.1 p hp
  have k1 := clZ_ok (f := sg p 3) g2 g3 y4 y5 y6 y7
  have k2 := clZ_fl (f := sg p 3) g2 g3 y4 y5 y6 y7
  have k3 := clA_b (f := sg p 3) g2 g3 y4 y5 y6 y7
  have k4 := clZ_48 (S1 := S1) (S2 := S2) (cb := bc) (f := sg p 3) r1 r2 z1
  have k5 := clZ_flN (S1 := S1) (S2 := S2) (f := sg p 3) g2 g3 y4 y5 r3 r4
  refine ⟨⟨y1, by omega, by omega, y4, k3, k1.1, k1.2, y8, slOK_upS y9 ⟨y4, g2, g3, k2, y5.1, y5.2⟩⟩, z1, bookB_eq z2 k4 n y1, z3, fun j hj => ?_, fun j hj => ?_⟩
  · by_cases c : j = p
    · rw [c, upS_s]; exact ⟨r1, r2, r3, r4⟩
    · rw [upS_n c]; exact z4.1 j hj
  · by_cases c : j = p
    · rw [c, upS_s]
      refine ⟨fun k hk => (z1 k hk).trans (t19_cpy k hk).symm, fun i hi => (k4 i hi).trans (cpy_f hi).symm, up_s.symm, k5⟩
    · rw [upS_n c]
      obtain ⟨q1, q2, q3, q4⟩ := z4.2 j (by omega)
      refine ⟨fun k hk => (q1 k hk).trans ?_, fun i hi => (q2 i hi).trans (cpy_o (by omega)).symm, q3.trans (up_n c).symm, q4⟩
      show TE (19 * j + k) = (if 19 * p ≤ 19 * j + k ∧ 19 * j + k < 19 * p + 19 then _ else TE (19 * j + k))
      rw [if_neg (by omega)]
end INVS
