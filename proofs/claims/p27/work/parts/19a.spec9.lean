/-- a long comparison's answer -/
noncomputable def lcI (x y : Int) : Int := (lg_cmp (lI x) (lI y)).toInt
theorem lcI_eq (x y : Int) : lg_cmp (lI x) (lI y) = iI (lcI x y) := iI_of _
theorem lcI_rng (x y : Int) : rng (lcI x y) := iI_rng _
section ZL
variable {p : Program} {l : Launch} {e : Env} {R : Room} {s : State} {m : MethodId} {args : Array Value} {below : List Frame} {meth : Method} {c : Code} {H : Heap} {locs : List Loc} {cells slots : Nat} {Q : State → Prop}
variable {cc : ByteArray} {nL : Nat} {own : String} {D : va_G} {k4 : Nat → ClassId} {pc : Nat} {ls : Array Slot} {rest : List Value}
theorem z_lcmp (E : zE p m c cc nL s args own D k4) {x y : Int} (hdg : decode cc pc = .ok (.lcmp, 1))
    (kk : W p l e R s m args below meth c H locs cells slots Q (F0 m (pc + 1) ls (.int (iI (lcI x y)) :: rest))) : W p l e R s m args below meth c H locs cells slots Q (F0 m pc ls (.long (lI y) :: .long (lI x) :: rest)) := W.lcmp E.1 E.2.1 hdg (by rw [lcI_eq]; exact kk)
theorem z_ishl1 (E : zE p m c cc nL s args own D k4) {x y : Int} (z : Int) (hz : (iI x) <<< (iI y &&& 31) = iI z) (hdg : decode cc pc = .ok (.ishl, 1))
    (kk : W p l e R s m args below meth c H locs cells slots Q (F0 m (pc + 1) ls (.int (iI z) :: rest))) : W p l e R s m args below meth c H locs cells slots Q (F0 m pc ls (.int (iI y) :: .int (iI x) :: rest)) := lv_ishl E.1 E.2.1 hdg (by rw [hz]; exact kk)
theorem z_ior1 (E : zE p m c cc nL s args own D k4) {x y : Int} (z : Int) (hz : (iI x) ||| (iI y) = iI z) (hdg : decode cc pc = .ok (.ior, 1))
    (kk : W p l e R s m args below meth c H locs cells slots Q (F0 m (pc + 1) ls (.int (iI z) :: rest))) : W p l e R s m args below meth c H locs cells slots Q (F0 m pc ls (.int (iI y) :: .int (iI x) :: rest)) := lv_ior E.1 E.2.1 hdg (by rw [hz]; exact kk)
end ZL
theorem shl1 : ∀ m : Nat, m < 6 → (iI 1) <<< (iI (m : Int) &&& 31) = iI (((2 ^ m : Nat)) : Int) := by decide +kernel
theorem or1 : ∀ m : Nat, m < 6 → ∀ a : Nat, a < 2 ^ m → (iI (a : Int)) ||| (iI ((2 ^ m : Nat) : Int)) = iI ((a + 2 ^ m : Nat) : Int) := by decide +kernel
/-- the set of those who are late -/
noncomputable def lateN (due : Nat → Int) (lim : Int) : Nat → Nat
  | 0 => 0
  | k + 1 => if lcI (due k) (-lim) < 0 then lateN due lim k + 2 ^ k else lateN due lim k
theorem lateN_b (due : Nat → Int) (lim : Int) : ∀ k : Nat, lateN due lim k < 2 ^ k
  | 0 => Nat.one_pos
  | k + 1 => by
    have := lateN_b due lim k
    unfold lateN
    rw [Nat.pow_succ]
    split <;> omega
def setB (bal : Nat → Int) : Nat → Nat → Int
  | 0 => bal
  | j + 1 => up (setB bal j) j 0
def setD (bal due : Nat → Int) (fee : Int) : Nat → Nat → Int
  | 0 => due
  | j + 1 => up (setD bal due fee j) j (setD bal due fee j j + (bal j - fee))
theorem setB_hi (bal : Nat → Int) : ∀ j k : Nat, j ≤ k → setB bal j k = bal k
  | 0, _, _ => rfl
  | j + 1, k, h => by
    unfold setB
    rw [up_n (by omega), setB_hi bal j k (by omega)]
theorem slOK_upS {sg : Nat → Nat → Nat → Int} {k : Nat} {x : Nat → Nat → Int} (h : ∀ j, j < 48 → slOK (sg j)) (hx : slOK x) : ∀ j, j < 48 → slOK (upS sg k x j) := by
  intro j hj
  unfold upS
  split
  · exact hx
  · exact h j hj
theorem rd_up {g : Nat → Int} (h : rdOK g) {m : Nat} {a : Int} (ha : 0 ≤ a ∧ a ≤ 5000) : rdOK (up g m a) := by
  intro k hk
  unfold up
  split
  · exact ha
  · exact h k hk
theorem slOK_rd {x : Nat → Nat → Int} (h : slOK x) {m : Nat} {a b : Int} (ha : 0 ≤ a ∧ a ≤ 5000) (hb : 0 ≤ b ∧ b ≤ 5000) : slOK (mkS (x 0) (up (x 1) m a) (up (x 2) m b) (x 3) (x 4 0) (x 4 1)) :=
  ⟨h.1, rd_up h.2.1 ha, rd_up h.2.2.1 hb, h.2.2.2.1, h.2.2.2.2⟩
/-! closing anew -/
abbrev zSt : Type := (Nat → Nat → Nat → Int) × sS × sS × (Nat → Int) × Int × Int × Int
/-- one slot closed anew -/
noncomputable def reX (n j : Nat) (Z : zSt) : zSt :=
  (upS Z.1 j (mkS (Z.1 j 0) (Z.1 j 1) (Z.1 j 2) (clZ (Z.1 j 1) (Z.1 j 2) (Z.1 j 0) (min Z.2.2.2.2.2.2 (Z.1 j 0 4)) Z.2.1 Z.2.2.1 (Z.1 j 3)).2.2 (min Z.2.2.2.2.2.2 (Z.1 j 0 4)) (clA (Z.1 j 1) (Z.1 j 2) (Z.1 j 0) (min Z.2.2.2.2.2.2 (Z.1 j 0 4)) Z.2.1 Z.2.2.1 (Z.1 j 3))),
   (clZ (Z.1 j 1) (Z.1 j 2) (Z.1 j 0) (min Z.2.2.2.2.2.2 (Z.1 j 0 4)) Z.2.1 Z.2.2.1 (Z.1 j 3)).1,
   (clZ (Z.1 j 1) (Z.1 j 2) (Z.1 j 0) (min Z.2.2.2.2.2.2 (Z.1 j 0 4)) Z.2.1 Z.2.2.1 (Z.1 j 3)).2.1,
   bookB (bookB Z.2.2.2.1 (Z.1 j 3) (-1) n) (clZ (Z.1 j 1) (Z.1 j 2) (Z.1 j 0) (min Z.2.2.2.2.2.2 (Z.1 j 0 4)) Z.2.1 Z.2.2.1 (Z.1 j 3)).2.2 1 n,
   Z.2.2.2.2.1 + bookP (Z.1 j 0) (Z.1 j 3) (-1) + bookP (Z.1 j 0) (clZ (Z.1 j 1) (Z.1 j 2) (Z.1 j 0) (min Z.2.2.2.2.2.2 (Z.1 j 0 4)) Z.2.1 Z.2.2.1 (Z.1 j 3)).2.2 1,
   Z.2.2.2.2.2.1 + bookG (Z.1 j 0) (Z.1 j 3) (-1) + bookG (Z.1 j 0) (clZ (Z.1 j 1) (Z.1 j 2) (Z.1 j 0) (min Z.2.2.2.2.2.2 (Z.1 j 0 4)) Z.2.1 Z.2.2.1 (Z.1 j 3)).2.2 1,
   clA (Z.1 j 1) (Z.1 j 2) (Z.1 j 0) (min Z.2.2.2.2.2.2 (Z.1 j 0 4)) Z.2.1 Z.2.2.1 (Z.1 j 3))
noncomputable def reN (n k : Nat) : Nat → zSt → zSt
  | 0, Z => Z
  | i + 1, Z => reX n (k + i) (reN n k i Z)
def reOK (Z : zSt) : Prop := (∀ j, j < 48 → slOK (Z.1 j)) ∧ sOK Z.2.1 ∧ sOK Z.2.2.1 ∧ 0 ≤ Z.2.2.2.2.2.2 ∧ Z.2.2.2.2.2.2 ≤ 20000
theorem reX_ok {n j : Nat} {Z : zSt} (h : reOK Z) (hj : j < 48) : reOK (reX n j Z) := by
  obtain ⟨h1, h2, h3, h4, h5⟩ := h
  obtain ⟨g1, g2, g3, g4, g5, g6⟩ := h1 j hj
  have hc : 0 ≤ min Z.2.2.2.2.2.2 (Z.1 j 0 4) ∧ min Z.2.2.2.2.2.2 (Z.1 j 0 4) ≤ Z.1 j 0 4 := by omega
  have k1 := clZ_ok (f := Z.1 j 3) g2 g3 g1 hc h2 h3
  have k2 := clZ_fl (f := Z.1 j 3) g2 g3 g1 hc h2 h3
  have k3 := clA_b (f := Z.1 j 3) g2 g3 g1 hc h2 h3
  have t4 := g1.2.2.2.2.1
  refine ⟨slOK_upS h1 ⟨g1, g2, g3, k2, hc.1, hc.2⟩, k1.1, k1.2, k3.1, ?_⟩
  show clA _ _ _ _ _ _ _ ≤ 20000
  omega
theorem reN_ok {n k p : Nat} {Z : zSt} (h : reOK Z) (hp : p ≤ 48) : ∀ i : Nat, k + i ≤ p → reOK (reN n k i Z)
  | 0, _ => h
  | i + 1, hi => reX_ok (reN_ok h hp i (by omega)) (by omega)
