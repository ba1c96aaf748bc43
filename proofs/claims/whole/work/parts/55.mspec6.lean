/-! slots of the reference, closed anew -/
abbrev mSt : Type := (Nat → Int) × (Nat → Int) × (Nat → Int) × Int × Int × Int
abbrev gS (GE : Nat → Int) (s : Nat) : Nat → Int := fun m => GE (48 * m + s)
abbrev tS (TE : Nat → Int) (s : Nat) : Nat → Int := fun i => TE (19 * s + i)
abbrev fSl (FL : Nat → Int) (s : Nat) : Nat → Int := fun i => FL (48 * s + i)
noncomputable def mX (TE GE US : Nat → Int) (n j : Nat) (Y : mSt) : mSt :=
  (up Y.1 j (min Y.2.2.2.2.2 (TE (19 * j + 4))),
   cpyI (CV (fun m => GE (48 * m + j)) (fun m => US (48 * m + j)) (fun i => TE (19 * j + i)) (min Y.2.2.2.2.2 (TE (19 * j + 4)))) Y.2.1 0 (48 * j) 48,
   bookB (bookB Y.2.2.1 (fun i => Y.2.1 (48 * j + i)) (-1) n) (CV (fun m => GE (48 * m + j)) (fun m => US (48 * m + j)) (fun i => TE (19 * j + i)) (min Y.2.2.2.2.2 (TE (19 * j + 4)))) 1 n,
   Y.2.2.2.1 + mP (fun i => TE (19 * j + i)) (fun i => Y.2.1 (48 * j + i)) (-1) n + mP (fun i => TE (19 * j + i)) (CV (fun m => GE (48 * m + j)) (fun m => US (48 * m + j)) (fun i => TE (19 * j + i)) (min Y.2.2.2.2.2 (TE (19 * j + 4)))) 1 n,
   Y.2.2.2.2.1 + mG (fun i => TE (19 * j + i)) (fun i => Y.2.1 (48 * j + i)) (-1) n + mG (fun i => TE (19 * j + i)) (CV (fun m => GE (48 * m + j)) (fun m => US (48 * m + j)) (fun i => TE (19 * j + i)) (min Y.2.2.2.2.2 (TE (19 * j + 4)))) 1 n,
   CAft (fun m => GE (48 * m + j)) (fun m => US (48 * m + j)) (fun i => TE (19 * j + i)) (min Y.2.2.2.2.2 (TE (19 * j + 4))))
noncomputable def reM (TE GE US : Nat → Int) (n k : Nat) : Nat → mSt → mSt
  | 0, Y => Y
  | i + 1, Y => mX TE GE US n (k + i) (reM TE GE US n k i Y)
/-- cells that closing anew makes -/
def sX (GE US : Nat → Int) (k : Nat) : Nat → Nat
  | 0 => 0
  | i + 1 => sX GE US k i + (18 + 2 * rdC (fun m => GE (48 * m + (k + i))) (fun m => US (48 * m + (k + i))))
def rowsOK (n : Nat) (GE US : Nat → Int) : Prop := ∀ j, j < 48 → rdOK (fun m => GE (48 * m + j)) ∧ rdOK (fun m => US (48 * m + j)) ∧ nul n (fun m => GE (48 * m + j)) ∧ nul n (fun m => US (48 * m + j))
theorem rd_set {n : Nat} {GE : Nat → Int} {m k : Nat} {a : Int} (hm : m < n) (hn : n ≤ 6) (hk : k < 48) (ha : 0 ≤ a ∧ a ≤ 5000) {j : Nat} (hj : j < 48) (h : rdOK (fun m => GE (48 * m + j)) ∧ nul n (fun m => GE (48 * m + j))) : rdOK (fun q => up GE (48 * m + k) a (48 * q + j)) ∧ nul n (fun q => up GE (48 * m + k) a (48 * q + j)) := by
  refine ⟨fun q hq => ?_, fun q h1 h2 => ?_⟩
  · show 0 ≤ up GE (48 * m + k) a (48 * q + j) ∧ up GE (48 * m + k) a (48 * q + j) ≤ 5000
    unfold up
    split
    · exact ha
    · exact h.1 q hq
  · show up GE (48 * m + k) a (48 * q + j) = 0
    rw [up_n (by omega)]
    exact h.2 q h1 h2
theorem rows_set {n : Nat} {GE US : Nat → Int} (h : rowsOK n GE US) {m k : Nat} {a b : Int} (hm : m < n) (hn : n ≤ 6) (hk : k < 48) (ha : 0 ≤ a ∧ a ≤ 5000) (hb : 0 ≤ b ∧ b ≤ 5000) : rowsOK n (up GE (48 * m + k) a) (up US (48 * m + k) b) := fun j hj => by
  obtain ⟨h1, h2, h3, h4⟩ := h j hj
  have a1 := rd_set hm hn hk ha hj ⟨h1, h3⟩
  have a2 := rd_set hm hn hk hb hj ⟨h2, h4⟩
  exact ⟨a1.1, a2.1, a1.2, a2.2⟩
def kq (K q : Nat) : Nat := 2 * K * q
theorem kq_s (K q : Nat) : kq K (q + 1) = kq K q + 2 * K := Nat.mul_succ _ _
theorem kq_3 {K q : Nat} (h : q ≤ 3) : kq K q ≤ 6 * K := by
  have := Nat.mul_le_mul_left (2 * K) h
  unfold kq
  omega
/-- the best rule so far, and what it brings -/
theorem bsN_v {F : Nat → Int} : ∀ q : Nat, ∃ r : Nat, r ≤ q ∧ bsN F (q + 1) = (((r : Nat) : Int), F r)
  | 0 => ⟨0, Nat.le_refl 0, if_pos (Or.inl rfl)⟩
  | q + 1 => by
    obtain ⟨r, h1, h2⟩ := bsN_v (F := F) q
    by_cases h : (bsN F (q + 1)).2 < F (q + 1)
    · exact ⟨q + 1, Nat.le_refl _, if_pos (Or.inr h)⟩
    · exact ⟨r, by omega, (if_neg (fun z => z.elim (fun z => absurd z (by omega)) h)).trans h2⟩
/-- the slots of the reference in the class's form -/
def sgM (TE GE US CO FL : Nat → Int) : Nat → Nat → Nat → Int := fun s c i => match c with
  | 0 => TE (19 * s + i)
  | 1 => GE (48 * i + s)
  | 2 => US (48 * i + s)
  | 3 => FL (48 * s + i)
  | _ => CO s
theorem t19_cpy {NW TE : Nat → Int} {p : Nat} : t19 (fun i => cpyI NW TE 0 (19 * p) 19 (19 * p + i)) NW := fun k hk => by
  show (if 19 * p ≤ 19 * p + k ∧ 19 * p + k < 19 * p + 19 then NW (0 + (19 * p + k - 19 * p)) else TE (19 * p + k)) = NW k
  rw [if_pos (by omega)]
  congr 1; omega
theorem tOK_19 {t t' : Nat → Int} (h : t19 t t') (ht : tOK t') : tOK t := by
  obtain ⟨h0, h1, h2, h3, h4, h5, h6, h7, h8⟩ := ht
  refine ⟨by rw [h 0 (by omega)]; exact h0, by rw [h 1 (by omega)]; exact h1, by rw [h 2 (by omega)]; exact h2, by rw [h 3 (by omega)]; exact h3, by rw [h 4 (by omega)]; exact h4, by rw [h 5 (by omega)]; exact h5, by rw [h 6 (by omega)]; exact h6, fun k hk => by rw [h (7 + k) (by omega)]; exact h7 k hk, fun k hk => by rw [h (13 + k) (by omega)]; exact h8 k hk⟩
theorem CV_48 {g u t t' : Nat → Int} {cb : Int} (ht : t19 t t') : ∀ i, i < 48 → CV g u t cb i = CV g u t' cb i := fun i hi => by
  have := CV_eq (g := g) (u := u) (cb := cb) eq6.rf eq6.rf ht (m := i / 8) (k := i % 8) (by omega) (by omega)
  rw [show i / 8 * 8 + i % 8 = i by omega] at this
  exact this
theorem mP_t {t t' f : Nat → Int} {sg : Int} {n : Nat} (h : t19 t t') : mP t f sg n = mP t' f sg n := by unfold mP; rw [h 3 (by omega)]
theorem mG_t {t t' f : Nat → Int} {sg : Int} {n : Nat} (h : t19 t t') : mG t f sg n = mG t' f sg n := by unfold mG; rw [h 1 (by omega), h 2 (by omega)]
