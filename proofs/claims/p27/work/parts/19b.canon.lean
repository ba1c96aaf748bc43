/-! sharing looks at six places alone -/
def eq6 (F F' : Nat → Int) : Prop := ∀ k, k < 6 → F k = F' k
def sEq (S S' : sS) : Prop := S.1 = S'.1 ∧ eq6 S.2.1 S'.2.1 ∧ eq6 S.2.2 S'.2.2
theorem eq6.rf {F : Nat → Int} : eq6 F F := fun _ _ => rfl
theorem eq6.symm {F F' : Nat → Int} (h : eq6 F F') : eq6 F' F := fun k hk => (h k hk).symm
theorem sEq.rf {S : sS} : sEq S S := ⟨rfl, eq6.rf, eq6.rf⟩
theorem giveS_eq {S S' : sS} {m : Nat} {a : Int} (h : sEq S S') (hm : m < 6) : sEq (giveS m a S) (giveS m a S') := by
  obtain ⟨h1, h2, h3⟩ := h
  have e := h2 m hm
  have e3 := h3 m hm
  refine ⟨?_, fun k hk => ?_, fun k hk => ?_⟩
  · show S.1 - min a (min (S.2.1 m) S.1) = S'.1 - min a (min (S'.2.1 m) S'.1)
    rw [h1, e]
  · show up S.2.1 m _ k = up S'.2.1 m _ k
    unfold up
    rw [h1, e, h2 k hk]
  · show up S.2.2 m _ k = up S'.2.2 m _ k
    unfold up
    rw [h1, e, e3, h3 k hk]
theorem giveTo_eq {f f' : Nat → Int} {S S' : sS} (h : sEq S S') : ∀ n : Nat, n ≤ 6 → (∀ k, k < n → f k = f' k) → sEq (giveTo f n S) (giveTo f' n S')
  | 0, _, _ => h
  | n + 1, hn, hf => by
    show sEq (giveS n (f n) _) (giveS n (f' n) _)
    rw [hf n (by omega)]
    exact giveS_eq (giveTo_eq h n (by omega) (fun k hk => hf k (by omega))) (by omega)
theorem giveOne_eq {sh sh' : Nat → Int} (hs : eq6 sh sh') {S S' : sS} (h : sEq S S') : ∀ n : Nat, n ≤ 6 → sEq (giveOne sh n S) (giveOne sh' n S')
  | 0, _ => h
  | n + 1, hn => by
    have ih := giveOne_eq hs h n (by omega)
    show sEq (if 0 < sh n then _ else _) (if 0 < sh' n then _ else _)
    rw [← hs n (by omega)]
    split
    · exact giveS_eq ih (by omega)
    · exact ih
theorem cntN_eq {R R' : Nat → Int} (h : eq6 R R') : ∀ n : Nat, n ≤ 6 → cntN R n = cntN R' n
  | 0, _ => rfl
  | n + 1, hn => by
    show (if 0 < R n then _ else _) = (if 0 < R' n then _ else _)
    rw [h n (by omega), cntN_eq h n (by omega)]
theorem ssumN_eq {sh sh' R R' : Nat → Int} (hs : eq6 sh sh') (h : eq6 R R') : ∀ n : Nat, n ≤ 6 → ssumN sh R n = ssumN sh' R' n
  | 0, _ => rfl
  | n + 1, hn => by
    show (if 0 < R n then _ else _) = (if 0 < R' n then _ else _)
    rw [h n (by omega), ssumN_eq hs h n (by omega), hs n (by omega)]
theorem sumN_eq {F F' : Nat → Int} : ∀ n : Nat, (∀ k, k < n → F k = F' k) → sumN F n = sumN F' n
  | 0, _ => rfl
  | n + 1, h => by
    show sumN F n + F n = sumN F' n + F' n
    rw [h n (by omega), sumN_eq n (fun k hk => h k (by omega))]
theorem eqStep_eq {S S' : sS} (h : sEq S S') : sEq (eqStep S) (eqStep S') := by
  unfold eqStep
  rw [cntN_eq h.2.1 6 (by omega), h.1]
  exact giveTo_eq h 6 (by omega) (fun _ _ => rfl)
theorem iter_rel {α β : Type} {f : α → α} {f' : β → β} {R : α → β → Prop} (hf : ∀ a b, R a b → R (f a) (f' b)) {a : α} {b : β} (h : R a b) : ∀ n : Nat, R (iter f n a) (iter f' n b)
  | 0 => h
  | n + 1 => hf _ _ (iter_rel hf h n)
theorem eqS_eq {S S' : sS} (h : sEq S S') : sEq (eqS S) (eqS S') := iter_rel (R := sEq) (fun _ _ h => eqStep_eq h) h NR
theorem shStep_eq {sh sh' : Nat → Int} (hs : eq6 sh sh') {S S' : sS} (h : sEq S S') : sEq (shStep sh S) (shStep sh' S') := by
  have h1 : sEq (giveTo (fun m => S.1 * sh m / ssumN sh S.2.1 6) 6 S) (giveTo (fun m => S'.1 * sh' m / ssumN sh' S'.2.1 6) 6 S') :=
    giveTo_eq h 6 (by omega) (fun k hk => by
      show S.1 * sh k / ssumN sh S.2.1 6 = S'.1 * sh' k / ssumN sh' S'.2.1 6
      rw [h.1, hs k hk, ssumN_eq hs h.2.1 6 (by omega)])
  unfold shStep
  by_cases hc : (giveTo (fun m => S.1 * sh m / ssumN sh S.2.1 6) 6 S).1 = S.1
  · rw [if_pos hc, if_pos (by rw [← h1.1, ← h.1]; exact hc)]
    exact giveOne_eq hs h1 6 (by omega)
  · rw [if_neg hc, if_neg (by rw [← h1.1, ← h.1]; exact hc)]
    exact h1
theorem shS_eq {sh sh' : Nat → Int} (hs : eq6 sh sh') {S S' : sS} (h : sEq S S') : sEq (shS sh S) (shS sh' S') := iter_rel (R := sEq) (fun _ _ h => shStep_eq hs h) h NR
theorem roomS_eq {S S' : sS} (h : sEq S S') : sEq (roomS S) (roomS S') := by
  unfold roomS
  refine giveTo_eq (giveTo_eq h 6 (by omega) (fun k hk => ?_)) 6 (by omega) (fun _ _ => rfl)
  show S.1 * S.2.1 k / sumN S.2.1 6 = S'.1 * S'.2.1 k / sumN S'.2.1 6
  rw [h.1, h.2.1 k hk, sumN_eq 6 h.2.1]
theorem npTo_eq {rk rk' : Nat → Int} (hr : eq6 rk rk') (last : Int) : ∀ n : Nat, n ≤ 6 → npTo rk last n = npTo rk' last n
  | 0, _ => rfl
  | n + 1, hn => by
    show (if _ ∧ _ then _ else _) = (if _ ∧ _ then _ else _)
    rw [hr n (by omega), npTo_eq hr last n (by omega)]
theorem rankS_eq {rk rk' : Nat → Int} (hr : eq6 rk rk') {S S' : sS} (h : sEq S S') : sEq (rankS rk S) (rankS rk' S') := by
  have := iter_rel (f := rkStep rk) (f' := rkStep rk') (R := fun Z Z' => Z.1 = Z'.1 ∧ sEq Z.2 Z'.2) (fun Z Z' hz => by
    refine ⟨?_, ?_⟩
    · show npTo rk Z.1 6 = npTo rk' Z'.1 6
      rw [hz.1, npTo_eq hr _ 6 (by omega)]
    · show sEq (giveS (npTo rk Z.1 6 % 6).toNat Z.2.1 Z.2) (giveS (npTo rk' Z'.1 6 % 6).toNat Z'.2.1 Z'.2)
      rw [hz.1, npTo_eq hr _ 6 (by omega), hz.2.1]
      exact giveS_eq hz.2 (by omega)) (a := (-1, S)) (b := (-1, S')) ⟨rfl, h⟩ 6
  exact this.2
theorem shareS_eq {ru ru' : Int} {sh sh' rk rk' : Nat → Int} (hu : ru = ru') (hs : eq6 sh sh') (hr : eq6 rk rk') {S S' : sS} (h : sEq S S') : sEq (shareS ru sh rk S) (shareS ru' sh' rk' S') := by
  subst hu
  unfold shareS
  split
  · exact eqS_eq (shS_eq hs h)
  · split
    · exact roomS_eq h
    · split
      · exact rankS_eq hr h
      · exact eqS_eq h
/-- terms alike in all their nineteen numbers -/
def t19 (t t' : Nat → Int) : Prop := ∀ k, k < 19 → t k = t' k
theorem t19.rf {t : Nat → Int} : t19 t t := fun _ _ => rfl
theorem t19.sh {t t' : Nat → Int} (h : t19 t t') : eq6 (fun i => t (7 + i)) (fun i => t' (7 + i)) := fun k hk => h (7 + k) (by omega)
theorem t19.rk {t t' : Nat → Int} (h : t19 t t') : eq6 (fun i => t (13 + i)) (fun i => t' (13 + i)) := fun k hk => h (13 + k) (by omega)
theorem shT_eq {ru ru' am am' : Int} {t t' : Nat → Int} (hu : ru = ru') (ht : t19 t t') (ha : am = am') {S S' : sS} (h : eq6 S.2.1 S'.2.1) : sEq (shT ru t am S) (shT ru' t' am' S') :=
  shareS_eq hu ht.sh ht.rk ⟨ha, h, eq6.rf⟩
/-! the closing, of the readings, the terms and the content alone -/
def surF (g u : Nat → Int) : Nat → Int := fun m => g m - min (g m) (u m)
def neeF (g u : Nat → Int) : Nat → Int := fun m => u m - min (g m) (u m)
def betW (g u : Nat → Int) : Int := min (sumN (surF g u) 6) (sumN (neeF g u) 6)
noncomputable def cA1 (g u t : Nat → Int) : sS := shT 2 t (betW g u) (0, surF g u, fun _ => 0)
noncomputable def cB1 (g u t : Nat → Int) : sS := shT (t 0) t (betW g u) (0, neeF g u, fun _ => 0)
noncomputable def cA2 (g u t : Nat → Int) (cb : Int) : sS := shT 2 t (chg t cb (cA1 g u t)) (cA1 g u t)
noncomputable def cB2 (g u t : Nat → Int) (cb : Int) : sS := shT (t 0) t (dis t cb (cB1 g u t)) (cB1 g u t)
noncomputable def cF (g u t : Nat → Int) (cb : Int) : Nat → Int := fun i =>
  if i % 8 = 0 then min (g (i / 8)) (u (i / 8)) else if i % 8 = 1 then (cB1 g u t).2.2 (i / 8) else if i % 8 = 2 then (cB2 g u t cb).2.2 (i / 8) else if i % 8 = 3 then (cB2 g u t cb).2.1 (i / 8)
  else if i % 8 = 4 then (cA1 g u t).2.2 (i / 8) else if i % 8 = 5 then (cA2 g u t cb).2.2 (i / 8) else (cA2 g u t cb).2.1 (i / 8)
noncomputable def CV (g u t : Nat → Int) (cb : Int) : Nat → Int := fun i => if i % 8 = 7 then mon t (cF g u t cb) (i / 8) else cF g u t cb i
noncomputable def CAft (g u t : Nat → Int) (cb : Int) : Int := cb + chg t cb (cA1 g u t) * t 6 / 100 - dis t cb (cB1 g u t)
theorem cl1_can {g u t : Nat → Int} {S1 S2 : sS} {f : Nat → Int} : sEq (cl1 t (cl0 g u S1 S2 f)).1 (cA1 g u t) ∧ sEq (cl1 t (cl0 g u S1 S2 f)).2.1 (cB1 g u t) := by
  have h1 : eq6 (cl0 g u S1 S2 f).1.2.1 (surF g u) := fun k hk => fillN_in 6 k hk
  have h2 : eq6 (cl0 g u S1 S2 f).2.1.2.1 (neeF g u) := fun k hk => fillN_in 6 k hk
  have ha : min (sumN (cl0 g u S1 S2 f).1.2.1 6) (sumN (cl0 g u S1 S2 f).2.1.2.1 6) = betW g u := by
    unfold betW
    rw [sumN_eq 6 h1, sumN_eq 6 h2]
  exact ⟨shT_eq rfl t19.rf ha h1, shT_eq rfl t19.rf ha h2⟩
theorem chg_eq {t t' : Nat → Int} (ht : t19 t t') {cb : Int} {S S' : sS} (h : eq6 S.2.1 S'.2.1) : chg t cb S = chg t' cb S' := by
  unfold chg mostC
  rw [sumN_eq 6 h, ht 4 (by omega), ht 5 (by omega), ht 6 (by omega)]
theorem dis_eq {t t' : Nat → Int} (ht : t19 t t') {cb : Int} {S S' : sS} (h : eq6 S.2.1 S'.2.1) : dis t cb S = dis t' cb S' := by
  unfold dis
  rw [sumN_eq 6 h, ht 5 (by omega)]
theorem cl2_can {g u t : Nat → Int} {cb : Int} {S1 S2 : sS} {f : Nat → Int} : sEq (cl2 t cb (cl1 t (cl0 g u S1 S2 f))).1 (cA2 g u t cb) ∧ sEq (cl2 t cb (cl1 t (cl0 g u S1 S2 f))).2.1 (cB2 g u t cb) := by
  have h := cl1_can (g := g) (u := u) (t := t) (S1 := S1) (S2 := S2) (f := f)
  exact ⟨shT_eq rfl t19.rf (chg_eq t19.rf h.1.2.1) h.1.2.1, shT_eq rfl t19.rf (dis_eq t19.rf h.2.2.1) h.2.2.1⟩
theorem clA_can {g u t : Nat → Int} {cb : Int} {S1 S2 : sS} {f : Nat → Int} : clA g u t cb S1 S2 f = CAft g u t cb := by
  have h := cl1_can (g := g) (u := u) (t := t) (S1 := S1) (S2 := S2) (f := f)
  unfold clA aft CAft
  rw [chg_eq t19.rf h.1.2.1, dis_eq t19.rf h.2.2.1]
theorem cF_at {g u t : Nat → Int} {cb : Int} {m k : Nat} (hk : k < 7) : cF g u t cb (m * 8 + k) = if k = 0 then min (g m) (u m) else if k = 1 then (cB1 g u t).2.2 m else if k = 2 then (cB2 g u t cb).2.2 m else if k = 3 then (cB2 g u t cb).2.1 m else if k = 4 then (cA1 g u t).2.2 m else if k = 5 then (cA2 g u t cb).2.2 m else (cA2 g u t cb).2.1 m := by
  unfold cF
  rw [show (m * 8 + k) % 8 = k by omega, show (m * 8 + k) / 8 = m by omega]
theorem pre_can {g u t : Nat → Int} {cb : Int} {S1 S2 : sS} {f : Nat → Int} {m k : Nat} (hm : m < 6) (hk : k < 7) : preG (cl2 t cb (cl1 t (cl0 g u S1 S2 f))).1.2.1 (cl2 t cb (cl1 t (cl0 g u S1 S2 f))).2.1.2.1 (cl2 t cb (cl1 t (cl0 g u S1 S2 f))).2.2 (m * 8 + k) = cF g u t cb (m * 8 + k) := by
  have h1 := cl1_can (g := g) (u := u) (t := t) (S1 := S1) (S2 := S2) (f := f)
  have h2 := cl2_can (g := g) (u := u) (t := t) (cb := cb) (S1 := S1) (S2 := S2) (f := f)
  rw [preG_at (by omega), cF_at hk]
  have e : (cl2 t cb (cl1 t (cl0 g u S1 S2 f))).2.2 (m * 8 + k) = keepF 5 2 (cl2 t cb (cl1 t (cl0 g u S1 S2 f))).1.2.2 (cl2 t cb (cl1 t (cl0 g u S1 S2 f))).2.1.2.2 (cl1 t (cl0 g u S1 S2 f)).2.2 6 (m * 8 + k) := rfl
  have e2 : (cl1 t (cl0 g u S1 S2 f)).2.2 (m * 8 + k) = keepF 4 1 (cl1 t (cl0 g u S1 S2 f)).1.2.2 (cl1 t (cl0 g u S1 S2 f)).2.1.2.2 (ownF g u f 6) 6 (m * 8 + k) := rfl
  rw [e, keepF_at (by omega) (by omega) (by omega) (by omega) 6, e2, keepF_at (by omega) (by omega) (by omega) (by omega) 6, ownF_at (by omega) 6, h2.1.2.1 m hm, h2.2.2.1 m hm, h2.1.2.2 m hm, h2.2.2.2 m hm, h1.1.2.2 m hm, h1.2.2.2 m hm]
  have hc : k = 0 ∨ k = 1 ∨ k = 2 ∨ k = 3 ∨ k = 4 ∨ k = 5 ∨ k = 6 := by omega
  rcases hc with rfl | rfl | rfl | rfl | rfl | rfl | rfl <;> simp [hm]
theorem clZ_can {g u t : Nat → Int} {cb : Int} {S1 S2 : sS} {f : Nat → Int} {m k : Nat} (hm : m < 6) (hk : k < 8) : (clZ g u t cb S1 S2 f).2.2 (m * 8 + k) = CV g u t cb (m * 8 + k) := by
  unfold clZ
  rw [cl_at t _ hm hk]
  unfold CV
  rw [show (m * 8 + k) % 8 = k by omega, show (m * 8 + k) / 8 = m by omega]
  split
  · exact mon_congr (fun k9 hk9 => pre_can hm hk9)
  · exact pre_can hm (by omega)
theorem CV_eq {g g' u u' t t' : Nat → Int} {cb : Int} (hg : eq6 g g') (hu : eq6 u u') (ht : t19 t t') {m k : Nat} (hm : m < 6) (hk : k < 8) : CV g u t cb (m * 8 + k) = CV g' u' t' cb (m * 8 + k) := by
  have s1 : eq6 (surF g u) (surF g' u') := fun k hk => by unfold surF; rw [hg k hk, hu k hk]
  have s2 : eq6 (neeF g u) (neeF g' u') := fun k hk => by unfold neeF; rw [hg k hk, hu k hk]
  have hb : betW g u = betW g' u' := by unfold betW; rw [sumN_eq 6 s1, sumN_eq 6 s2]
  have a1 : sEq (cA1 g u t) (cA1 g' u' t') := shT_eq rfl ht hb s1
  have b1 : sEq (cB1 g u t) (cB1 g' u' t') := shT_eq (ht 0 (by omega)) ht hb s2
  have a2 : sEq (cA2 g u t cb) (cA2 g' u' t' cb) := shT_eq rfl ht (chg_eq ht a1.2.1) a1.2.1
  have b2 : sEq (cB2 g u t cb) (cB2 g' u' t' cb) := shT_eq (ht 0 (by omega)) ht (dis_eq ht b1.2.1) b1.2.1
  have hf : ∀ k, k < 7 → cF g u t cb (m * 8 + k) = cF g' u' t' cb (m * 8 + k) := fun k hk => by
    rw [cF_at hk, cF_at hk, hg m hm, hu m hm, a1.2.2 m hm, b1.2.2 m hm, a2.2.2 m hm, a2.2.1 m hm, b2.2.2 m hm, b2.2.1 m hm]
  unfold CV
  rw [show (m * 8 + k) % 8 = k by omega, show (m * 8 + k) / 8 = m by omega]
  split
  · unfold mon
    rw [hf 1 (by omega), hf 2 (by omega), hf 3 (by omega), hf 4 (by omega), hf 5 (by omega), hf 6 (by omega), ht 1 (by omega), ht 2 (by omega), ht 3 (by omega)]
  · exact hf k (by omega)
theorem CAft_eq {g g' u u' t t' : Nat → Int} {cb : Int} (hg : eq6 g g') (hu : eq6 u u') (ht : t19 t t') : CAft g u t cb = CAft g' u' t' cb := by
  have s1 : eq6 (surF g u) (surF g' u') := fun k hk => by unfold surF; rw [hg k hk, hu k hk]
  have s2 : eq6 (neeF g u) (neeF g' u') := fun k hk => by unfold neeF; rw [hg k hk, hu k hk]
  have hb : betW g u = betW g' u' := by unfold betW; rw [sumN_eq 6 s1, sumN_eq 6 s2]
  have a1 : sEq (cA1 g u t) (cA1 g' u' t') := shT_eq rfl ht hb s1
  have b1 : sEq (cB1 g u t) (cB1 g' u' t') := shT_eq (ht 0 (by omega)) ht hb s2
  unfold CAft
  rw [chg_eq ht a1.2.1, dis_eq ht b1.2.1, ht 6 (by omega)]
