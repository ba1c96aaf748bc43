theorem cl_at (t : Nat → Int) (Z : sS × sS × (Nat → Int)) {m k : Nat} (hm : m < 6) (hk : k < 8) : (cl3 t Z).2.2 (m * 8 + k) = if k = 7 then mon t (preG Z.1.2.1 Z.2.1.2.1 Z.2.2) m else preG Z.1.2.1 Z.2.1.2.1 Z.2.2 (m * 8 + k) := by
  show gridF t Z.1.2.1 Z.2.1.2.1 Z.2.2 6 (m * 8 + k) = _
  rw [gridF_at hk 6, if_pos hm]
theorem preG_at {R1 R2 f : Nat → Int} {m k : Nat} (hk : k < 8) : preG R1 R2 f (m * 8 + k) = if k = 6 then R1 m else if k = 3 then R2 m else f (m * 8 + k) := by
  unfold preG
  rw [show (m * 8 + k) % 8 = k by omega, show (m * 8 + k) / 8 = m by omega]
/-- an amount of the closing: what each kind is -/
theorem cl_fl7 {f : Nat → Int} (h : ∀ m, m < 6 → ∀ k, k < 7 → 0 ≤ f (m * 8 + k) ∧ f (m * 8 + k) ≤ 5000) {t : Nat → Int} (ht : tOK t) {m : Nat} (hm : m < 6) : -10000000 ≤ mon t f m ∧ mon t f m ≤ 10000000 := by
  have h1 := h m hm 1 (by omega)
  have h2 := h m hm 2 (by omega)
  have h3 := h m hm 3 (by omega)
  have h4 := h m hm 4 (by omega)
  have h5 := h m hm 5 (by omega)
  have h6 := h m hm 6 (by omega)
  obtain ⟨_, t1, t2, t3, _⟩ := ht
  unfold mon
  have k1 := mulS (a := f (m * 8 + 4) + f (m * 8 + 5) - (f (m * 8 + 1) + f (m * 8 + 2))) (A := 10000) (b := t 3) (B := 100) (by omega) (by omega) t3.1 t3.2
  have k2 := mulB t2.1 t2.2 h6.1 h6.2
  have k3 := mulB t1.1 t1.2 h3.1 h3.2
  rw [Int.mul_comm (t 3)]
  omega
theorem clZ_fl {g u t : Nat → Int} {cb : Int} {S1 S2 : sS} {f : Nat → Int} (hg : rdOK g) (hu : rdOK u) (ht : tOK t) (hc : 0 ≤ cb ∧ cb ≤ t 4) (h1 : sOK S1) (h2 : sOK S2) : flOK (clZ g u t cb S1 S2 f).2.2 := by
  have k0 := cl0_ok (f := f) hg hu h1 h2
  have k1 := cl1_ok ht k0
  have k2 := cl2_ok ht hc k1
  have s1 := sum_b k0.1
  have s2 := sum_b k0.2
  have b2 := cl2_b ht hc k1
  have hpre : ∀ m, m < 6 → ∀ k, k < 7 → 0 ≤ preG (cl2 t cb (cl1 t (cl0 g u S1 S2 f))).1.2.1 (cl2 t cb (cl1 t (cl0 g u S1 S2 f))).2.1.2.1 (cl2 t cb (cl1 t (cl0 g u S1 S2 f))).2.2 (m * 8 + k) ∧ preG (cl2 t cb (cl1 t (cl0 g u S1 S2 f))).1.2.1 (cl2 t cb (cl1 t (cl0 g u S1 S2 f))).2.1.2.1 (cl2 t cb (cl1 t (cl0 g u S1 S2 f))).2.2 (m * 8 + k) ≤ 5000 := by
    intro m hm k hk
    rw [preG_at (by omega)]
    by_cases h6 : k = 6
    · rw [if_pos h6]; exact k2.1.2 m hm
    · rw [if_neg h6]
      by_cases h3 : k = 3
      · rw [if_pos h3]; exact k2.2.2 m hm
      · rw [if_neg h3]
        show 0 ≤ keepF 5 2 _ _ (cl1 t (cl0 g u S1 S2 f)).2.2 6 (m * 8 + k) ∧ keepF 5 2 _ _ (cl1 t (cl0 g u S1 S2 f)).2.2 6 (m * 8 + k) ≤ 5000
        rw [keepF_at (by omega) (by omega) (by omega) (by omega) 6]
        by_cases h5 : k = 5
        · rw [if_pos (show m < 6 ∧ k = 5 from ⟨hm, h5⟩)]; exact shT_part ht k1.1 (by omega) hm
        · rw [if_neg (show ¬ (m < 6 ∧ k = 5) by omega)]
          by_cases h2 : k = 2
          · rw [if_pos (show m < 6 ∧ k = 2 from ⟨hm, h2⟩)]; exact shT_part ht k1.2 (by omega) hm
          · rw [if_neg (show ¬ (m < 6 ∧ k = 2) by omega)]
            show 0 ≤ keepF 4 1 _ _ (cl0 g u S1 S2 f).2.2 6 (m * 8 + k) ∧ keepF 4 1 _ _ (cl0 g u S1 S2 f).2.2 6 (m * 8 + k) ≤ 5000
            rw [keepF_at (by omega) (by omega) (by omega) (by omega) 6]
            by_cases h4 : k = 4
            · rw [if_pos (show m < 6 ∧ k = 4 from ⟨hm, h4⟩)]; exact shT_part ht k0.1 (by omega) hm
            · rw [if_neg (show ¬ (m < 6 ∧ k = 4) by omega)]
              by_cases h1 : k = 1
              · rw [if_pos (show m < 6 ∧ k = 1 from ⟨hm, h1⟩)]; exact shT_part ht k0.2 (by omega) hm
              · rw [if_neg (show ¬ (m < 6 ∧ k = 1) by omega)]
                show 0 ≤ ownF g u f 6 (m * 8 + k) ∧ ownF g u f 6 (m * 8 + k) ≤ 5000
                rw [ownF_at (by omega) 6, if_pos (show m < 6 ∧ k = 0 by omega)]
                have := hg m hm
                have := hu m hm
                omega
  refine ⟨fun m hm k hk => ?_, fun m hm => ?_⟩
  · unfold clZ
    rw [cl_at t _ hm (by omega), if_neg (by omega)]
    exact hpre m hm k hk
  · unfold clZ
    rw [cl_at t _ hm (by omega), if_pos rfl]
    exact cl_fl7 hpre ht hm
theorem aft_b {t : Nat → Int} {cb : Int} (ht : tOK t) (hc : 0 ≤ cb ∧ cb ≤ t 4) {Z : sS × sS × (Nat → Int)} (h : sOK Z.1 ∧ sOK Z.2.1) : 0 ≤ aft t cb Z ∧ aft t cb Z ≤ t 4 := by
  have b1 := sum_b h.1
  have b2 := sum_b h.2
  have b := cl2_b ht hc h
  obtain ⟨_, _, _, _, h4, h5, h6, _⟩ := ht
  have hd : dis t cb Z.2.1 ≤ cb := by unfold dis; omega
  have hm : chg t cb Z.1 ≤ ((t 4 - cb) * 100 + 99) / t 6 := by unfold chg mostC; omega
  have hq : chg t cb Z.1 * t 6 ≤ (t 4 - cb) * 100 + 99 := by
    have e1 := Int.mul_le_mul_of_nonneg_right hm (show 0 ≤ t 6 by omega)
    have e2 := Int.ediv_mul_le ((t 4 - cb) * 100 + 99) (show t 6 ≠ 0 by omega)
    omega
  have hq0 : 0 ≤ chg t cb Z.1 * t 6 := Int.mul_nonneg b.1.1 (by omega)
  unfold aft
  generalize chg t cb Z.1 * t 6 = q at hq hq0 ⊢
  omega
theorem clA_b {g u t : Nat → Int} {cb : Int} {S1 S2 : sS} {f : Nat → Int} (hg : rdOK g) (hu : rdOK u) (ht : tOK t) (hc : 0 ≤ cb ∧ cb ≤ t 4) (h1 : sOK S1) (h2 : sOK S2) : 0 ≤ clA g u t cb S1 S2 f ∧ clA g u t cb S1 S2 f ≤ t 4 :=
  aft_b ht hc (cl1_ok ht (cl0_ok (f := f) hg hu h1 h2))
/-! the slots of a ledger: seven cells each, in any number -/
def mkS (t g u f : Nat → Int) (cb ca : Int) : Nat → Nat → Int := fun c i => match c with
  | 0 => t i
  | 1 => g i
  | 2 => u i
  | 3 => f i
  | _ => match i with
    | 0 => cb
    | _ => ca
def slC (k4 : Nat → ClassId) (a : Nat → Nat) (x : Nat → Nat → Int) : va_W := [(a 0, .inr (2, [.ref (a 1), .ref (a 4), .ref (a 5), .ref (a 6), .int (iI (x 4 0)), .int (iI (x 4 1))])), (a 1, .inr (3, [.ref (a 2), .ref (a 3), .int (iI (x 0 0)), .int (iI (x 0 1)), .int (iI (x 0 2)), .int (iI (x 0 3)), .int (iI (x 0 4)), .int (iI (x 0 5)), .int (iI (x 0 6))])), (a 2, .inl (k4 0, 6, .inl (fun k => iI ((fun i => x 0 (7 + i)) k)))), (a 3, .inl (k4 0, 6, .inl (fun k => iI ((fun i => x 0 (13 + i)) k)))), (a 4, .inl (k4 0, 6, .inl (fun k => iI (x 1 k)))), (a 5, .inl (k4 0, 6, .inl (fun k => iI (x 2 k)))), (a 6, .inl (k4 0, 48, .inl (fun k => iI (x 3 k))))]
def slF (k4 : Nat → ClassId) (sa : Nat → Nat → Nat) (sg : Nat → Nat → Nat → Int) : Nat → va_W
  | 0 => []
  | n + 1 => slF k4 sa sg n ++ slC k4 (sa n) (sg n)
def slR (k4 : Nat → ClassId) (sa : Nat → Nat → Nat) (sg : Nat → Nat → Nat → Int) (k : Nat) : Nat → va_W
  | 0 => []
  | n + 1 => if n = k then slR k4 sa sg k n else slR k4 sa sg k n ++ slC k4 (sa n) (sg n)
def upS (sg : Nat → Nat → Nat → Int) (k : Nat) (x : Nat → Nat → Int) : Nat → Nat → Nat → Int := fun j => if j = k then x else sg j
theorem upS_s {sg : Nat → Nat → Nat → Int} {k : Nat} {x : Nat → Nat → Int} : upS sg k x k = x := if_pos rfl
theorem upS_n {sg : Nat → Nat → Nat → Int} {k j : Nat} {x : Nat → Nat → Int} (h : j ≠ k) : upS sg k x j = sg j := if_neg h
theorem slR_low (k4 : Nat → ClassId) (sa : Nat → Nat → Nat) (sg : Nat → Nat → Nat → Int) (k : Nat) : ∀ n : Nat, n ≤ k → slR k4 sa sg k n = slF k4 sa sg n
  | 0, _ => rfl
  | n + 1, h => by
    show (if n = k then _ else _) = _
    rw [if_neg (by omega), slR_low k4 sa sg k n (by omega)]
    rfl
theorem slF_perm (k4 : Nat → ClassId) (sa : Nat → Nat → Nat) (sg : Nat → Nat → Nat → Int) (k : Nat) : ∀ n : Nat, k < n → (slF k4 sa sg n).Perm (slC k4 (sa k) (sg k) ++ slR k4 sa sg k n)
  | 0, h => by omega
  | n + 1, h => by
    show (slF k4 sa sg n ++ slC k4 (sa n) (sg n)).Perm (_ ++ (if n = k then _ else _))
    by_cases hk : n = k
    · subst hk
      rw [if_pos rfl, slR_low k4 sa sg n n (by omega)]
      exact List.perm_append_comm
    · rw [if_neg hk, ← List.append_assoc]
      exact (slF_perm k4 sa sg k n (by omega)).append_right _
theorem slR_up (k4 : Nat → ClassId) (sa : Nat → Nat → Nat) (sg : Nat → Nat → Nat → Int) (k : Nat) (x : Nat → Nat → Int) : ∀ n : Nat, slR k4 sa (upS sg k x) k n = slR k4 sa sg k n
  | 0 => rfl
  | n + 1 => by
    show (if n = k then _ else _) = (if n = k then _ else _)
    by_cases hk : n = k
    · rw [if_pos hk, if_pos hk, slR_up k4 sa sg k x n]
    · rw [if_neg hk, if_neg hk, slR_up k4 sa sg k x n, upS_n hk]
/-- the number 48, which nothing counts out -/
noncomputable def NS : Nat := Classical.choose (⟨48, rfl⟩ : ∃ n : Nat, n = 48)
theorem NS_eq : NS = 48 := Classical.choose_spec (⟨48, rfl⟩ : ∃ n : Nat, n = 48)
theorem zG.cut {D : va_G} {A : Nat → Prop} {H0 H : Heap} {locs : List Loc} {k4 : Nat → ClassId} {sa : Nat → Nat → Nat} {sg : Nat → Nat → Nat → Int} (core : va_W) (k : Nat) (hk : k < 48) (G : zG D A H0 (core ++ slF k4 sa sg NS) H locs) : zG D A H0 (core ++ (slC k4 (sa k) (sg k) ++ slR k4 sa sg k NS)) H locs :=
  G.perm (List.Perm.append_left core (slF_perm k4 sa sg k NS (by rw [NS_eq]; exact hk)))
theorem zG.paste {D : va_G} {A : Nat → Prop} {H0 H : Heap} {locs : List Loc} {k4 : Nat → ClassId} {sa : Nat → Nat → Nat} {sg : Nat → Nat → Nat → Int} (core : va_W) (k : Nat) (x : Nat → Nat → Int) (hk : k < 48) (G : zG D A H0 (core ++ (slC k4 (sa k) x ++ slR k4 sa sg k NS)) H locs) : zG D A H0 (core ++ slF k4 sa (upS sg k x) NS) H locs := by
  refine G.perm (List.Perm.append_left core ?_)
  have h := slF_perm k4 sa (upS sg k x) k NS (by rw [NS_eq]; exact hk)
  rw [slR_up, upS_s] at h
  exact h.symm
theorem upS_id {sg : Nat → Nat → Nat → Int} {k : Nat} : upS sg k (sg k) = sg := by
  funext j
  unfold upS
  split
  · subst_vars; rfl
  · rfl
theorem slF_fst (k4 : Nat → ClassId) (sa : Nat → Nat → Nat) (sg sg' : Nat → Nat → Nat → Int) : ∀ n : Nat, (slF k4 sa sg n).map Prod.fst = (slF k4 sa sg' n).map Prod.fst
  | 0 => rfl
  | n + 1 => by
    show (slF k4 sa sg n ++ _).map _ = (slF k4 sa sg' n ++ _).map _
    rw [List.map_append, List.map_append, slF_fst k4 sa sg sg' n]
    rfl
/-- a slot's numbers are within their bounds -/
def slOK (x : Nat → Nat → Int) : Prop := tOK (x 0) ∧ rdOK (x 1) ∧ rdOK (x 2) ∧ flOK (x 3) ∧ 0 ≤ x 4 0 ∧ x 4 0 ≤ x 0 4
theorem zxF {k4 : Nat → ClassId} {sa : Nat → Nat → Nat} {sg sg' : Nat → Nat → Nat → Int} (core core' : va_W) (h : core'.map Prod.fst = core.map Prod.fst) : ∃ x, (core' ++ slF k4 sa sg' NS).map Prod.fst = (core ++ slF k4 sa sg NS).map Prod.fst ++ x :=
  zx0 (by rw [List.map_append, List.map_append, h, slF_fst k4 sa sg' sg NS])
def xOK (n p st : Nat) (bc : Int) (nw : Nat → Int) (S1 S2 : sS) (tx : Nat → Nat → Int) (sg : Nat → Nat → Nat → Int) : Prop :=
  n ≤ 6 ∧ p ≤ 48 ∧ st ≤ p ∧ tOK nw ∧ (0 ≤ bc ∧ bc ≤ nw 4) ∧ sOK S1 ∧ sOK S2 ∧ slOK tx ∧ ∀ k, k < 48 → slOK (sg k)
