theorem divB {a b : Int} (ha : 0 ≤ a) (hb : 0 < b) : 0 ≤ a / b ∧ a / b ≤ a := ⟨Int.ediv_nonneg ha (by omega), Int.ediv_le_self b ha⟩
theorem iI_rem {a b : Int} (ha : 0 ≤ a) (ha2 : a < 2147483648) (hb : 0 < b) (hb2 : b < 2147483648) : iI a - iI a / iI b * iI b = iI (a % b) := by
  rw [iI_div ha ha2 hb hb2, iI_mul, iI_sub]
  congr 1
  have := Int.emod_add_mul_ediv a b
  have h2 : b * (a / b) = a / b * b := Int.mul_comm _ _
  omega
section ZM
variable {p : Program} {l : Launch} {e : Env} {R : Room} {s : State} {m : MethodId} {args : Array Value} {below : List Frame} {meth : Method} {c : Code} {H : Heap} {locs : List Loc} {cells slots : Nat} {Q : State → Prop}
variable {cc : ByteArray} {nL : Nat} {own : String} {D : va_G} {k4 : Nat → ClassId} {pc : Nat} {ls : Array Slot} {rest : List Value} {A : Nat → Prop} {H0 : Heap} {ws : va_W} {a : Nat}
theorem z_irem (E : zE p m c cc nL s args own D k4) {x y : Int} (hdg : decode cc pc = .ok (.irem, 1)) (hx : 0 ≤ x ∧ x < 2147483648) (hy : 0 < y ∧ y < 2147483648)
    (kk : W p l e R s m args below meth c H locs cells slots Q (F0 m (pc + 1) ls (.int (iI (x % y)) :: rest))) : W p l e R s m args below meth c H locs cells slots Q (F0 m pc ls (.int (iI y) :: .int (iI x) :: rest)) := lv_irem E.1 E.2.1 hdg (iI_ne0 ⟨by omega, hy.2⟩ (by omega)) (by rw [iI_rem hx.1 hx.2 hy.1 hy.2]; exact kk)
theorem z_tableIn (E : zE p m c cc nL s args own D k4) {dflt lo hi : Int} {offs : Array Int} {len : Nat} {x : Int} {off : Int} (k : Nat) {tgt : Nat} (hdg : decode cc pc = .ok (.tableswitch dflt lo hi offs, len)) (hx : rng x) (h1 : x = lo + k) (h2 : lo + k ≤ hi) (ho : offs[k]? = some off) (ht : (pc : Int) + off = (tgt : Int))
    (kk : W p l e R s m args below meth c H locs cells slots Q (F0 m tgt ls rest)) : W p l e R s m args below meth c H locs cells slots Q (F0 m pc ls (.int (iI x) :: rest)) :=
  lv_tableIn E.1 E.2.1 hdg (by rw [iI_toInt hx]; omega) (by rw [iI_toInt hx]; omega) (by rw [iI_toInt hx, h1, show (lo + (k : Int) - lo).toNat = k by omega]; exact ho) ht kk
theorem z_tableOut (E : zE p m c cc nL s args own D k4) {dflt lo hi : Int} {offs : Array Int} {len : Nat} {x : Int} {tgt : Nat} (hdg : decode cc pc = .ok (.tableswitch dflt lo hi offs, len)) (hx : rng x) (h : x < lo ∨ hi < x) (ht : (pc : Int) + dflt = (tgt : Int))
    (kk : W p l e R s m args below meth c H locs cells slots Q (F0 m tgt ls rest)) : W p l e R s m args below meth c H locs cells slots Q (F0 m pc ls (.int (iI x) :: rest)) :=
  lv_tableOut E.1 E.2.1 hdg (by rw [iI_toInt hx]; exact h) ht kk
/-- an array's class is the one that the tables name -/
theorem z_cls {cA : ClassId} {ty : FieldType} (hty : ∀ C, ty ≠ .object C) (E : zE p m c cc nL s args own D k4) {i : Nat} {cB : ClassId} (hi : (tys4 k4)[i]? = some (cB, ty)) (h : va_K D vwCl (tys4 k4 ++ [(cA, ty)]) s) : cA = cB := by
  have h1 := (h.2 4 (cA, ty) (by rfl)).2
  have h2 := (E.2.2.2.2.2.1.2 i (cB, ty) hi).2
  cases ty with
  | object C => exact absurd rfl (hty C)
  | _ => exact Option.some.inj ((show _ = some cA from h1).symm.trans h2)
theorem z_newa_int (E : zE p m c cc nL s args own D k4) (G : zG D A H0 ws H locs) {n : Nat} {z : Int} (hz : z = (n : Int)) (w : Cond.arrayClass .int ∈ zA) (hc : cells + 1 ≤ R.cells) (hs : slots + n ≤ R.slots) (hn : n ≤ 100000) (hdg : decode cc pc = .ok (.newarray .int, 2))
    (kk : ∀ (q : Nat) (H1 : Heap), zG D A H0 (ws ++ [(q, .inl (k4 0, n, .inl (fun k => iI ((fun _ => 0) k))))]) H1 locs → W p l e R s m args below meth c H1 locs (cells + 1) (slots + n) Q (F0 m (pc + 2) ls (.ref q :: rest))) : W p l e R s m args below meth c H locs cells slots Q (F0 m pc ls (.int (iI z) :: rest)) := by
  subst hz
  have h1 : (iI (n : Int)).toNatClampNeg = n := iI_clamp (by omega)
  refine va_newa (atype := .int) (ty := .int) (N' := n) (a0 := (n, .inl (fun _ => iI 0))) E.1 E.2.1 (E.w w) rfl E.2.2.2.2.2.1 G.1 G.2.1 G.2.2.1 G.2.2.2 (fun cA => by rw [vp_cell_i]; rfl) (fun q => by have := (iI_lt ⟨by omega, by omega⟩ rng0).mp q; omega) h1 (by show n * 4 ≤ _; omega) hc hs hdg (fun q cA H1 hK hP hD hS => ?_)
  have := z_cls (by intro C; simp) E (i := 0) rfl hK
  subst this
  exact kk q H1 ⟨hP, hD, hS, G.2.2.2⟩
theorem z_newa_long (E : zE p m c cc nL s args own D k4) (G : zG D A H0 ws H locs) {n : Nat} {z : Int} (hz : z = (n : Int)) (w : Cond.arrayClass .long ∈ zA) (hc : cells + 1 ≤ R.cells) (hs : slots + n ≤ R.slots) (hn : n ≤ 100000) (hdg : decode cc pc = .ok (.newarray .long, 2))
    (kk : ∀ (q : Nat) (H1 : Heap), zG D A H0 (ws ++ [(q, .inl (k4 1, n, .inr (.inl (fun k => lI ((fun _ => 0) k)))))]) H1 locs → W p l e R s m args below meth c H1 locs (cells + 1) (slots + n) Q (F0 m (pc + 2) ls (.ref q :: rest))) : W p l e R s m args below meth c H locs cells slots Q (F0 m pc ls (.int (iI z) :: rest)) := by
  subst hz
  have h1 : (iI (n : Int)).toNatClampNeg = n := iI_clamp (by omega)
  refine va_newa (atype := .long) (ty := .long) (N' := n) (a0 := (n, .inr (.inl (fun _ => lI 0)))) E.1 E.2.1 (E.w w) rfl E.2.2.2.2.2.1 G.1 G.2.1 G.2.2.1 G.2.2.2 (fun cA => by rw [vp_cell_l]; rfl) (fun q => by have := (iI_lt ⟨by omega, by omega⟩ rng0).mp q; omega) h1 (by show n * 8 ≤ _; omega) hc hs hdg (fun q cA H1 hK hP hD hS => ?_)
  have := z_cls (by intro C; simp) E (i := 1) rfl hK
  subst this
  exact kk q H1 ⟨hP, hD, hS, G.2.2.2⟩
theorem z_clsO {cA : ClassId} (E : zE p m c cc nL s args own D k4) (h : va_K D vwCl (tys4 k4 ++ [(cA, .object "EnergyLedger$Slot")]) s) : cA = k4 3 := by
  obtain ⟨_, _, _, _, _, h1⟩ := (h.2 4 (cA, .object "EnergyLedger$Slot") (by rfl)).2
  obtain ⟨_, _, _, _, _, h2⟩ := (E.2.2.2.2.2.1.2 3 (k4 3, .object "EnergyLedger$Slot") rfl).2
  exact Option.some.inj (h1.symm.trans h2)
theorem z_newq (E : zE p m c cc nL s args own D k4) (G : zG D A H0 ws H locs) {n index : Nat} {z : Int} (hz : z = (n : Int)) (w : Cond.classLink own index "EnergyLedger$Slot" ∈ zA) (hc : cells + 1 ≤ R.cells) (hs : slots + n ≤ R.slots) (hn : n ≤ 100000) (hdg : decode cc pc = .ok (.anewarray index, 3))
    (kk : ∀ (q : Nat) (H1 : Heap), zG D A H0 (ws ++ [(q, .inl (k4 3, n, .inr (.inr (.inr (.inr (fun _ => none))))))]) H1 locs → W p l e R s m args below meth c H1 locs (cells + 1) (slots + n) Q (F0 m (pc + 3) ls (.ref q :: rest))) : W p l e R s m args below meth c H locs cells slots Q (F0 m pc ls (.int (iI z) :: rest)) := by
  subst hz
  have h1 : (iI (n : Int)).toNatClampNeg = n := iI_clamp (by omega)
  refine va_newq (C := "EnergyLedger$Slot") (N' := n) E.1 E.2.1 E.2.2.2.1 (E.w w) E.2.2.2.2.2.2.2 E.2.2.2.2.2.1 G.1 G.2.1 G.2.2.1 G.2.2.2 (fun q => by have := (iI_lt ⟨by omega, by omega⟩ rng0).mp q; omega) h1 (by omega) hc hs hdg (fun q cA H1 hK hP hD hS => ?_)
  have := z_clsO E hK
  subst this
  exact kk q H1 ⟨hP, hD, hS, G.2.2.2⟩
theorem z_aast (E : zE p m c cc nL s args own D k4) (G : zG D A H0 ws H locs) (q0 qk : Nat) {n v : Nat} {vs : List Value} {F : Nat → Option Nat} (ha : ws[q0]? = some (a, .inl (k4 3, n, .inr (.inr (.inr (.inr F)))))) (hv : ws[qk]? = some (v, .inr (2, vs))) {z : Int} (j : Nat) (hz : z = (j : Int)) (hj : j < n) (hn : n < 2147483648) (hdg : decode cc pc = .ok (.aastore, 1))
    (kk : ∀ (H1 : Heap) (locs1 : List Loc), zG D A H0 (ws.set q0 (a, .inl (k4 3, n, .inr (.inr (.inr (.inr (va_up F j (some v)))))))) H1 locs1 → W p l e R s m args below meth c H1 locs1 cells slots Q (F0 m (pc + 1) ls rest)) : W p l e R s m args below meth c H locs cells slots Q (F0 m pc ls (.ref v :: .int (iI z) :: .ref a :: rest)) := by
  subst hz
  refine va_astq (tys := tys4 k4) (r := (RX2, TX2, 6)) E.1 E.2.1 E.2.2.2.2.2.1 G.1 G.2.1 G.2.2.1 q0 3 qk 2 ha rfl hv rfl (iI_in hj hn) hdg (fun H1 locs1 h1 h2 h3 => ?_)
  rw [iI_clamp (Nat.lt_trans hj hn)] at h1 h2
  exact kk H1 locs1 ⟨h1, h2, h3, G.2.2.2⟩
/-- references that are the same within the length -/
theorem z_extq {n : Nat} {F F' : Nat → Option Nat} {cA : ClassId} (G : zG D A H0 ws H locs) (q0 : Nat) (ha : ws[q0]? = some (a, .inl (cA, n, .inr (.inr (.inr (.inr F)))))) (h : ∀ k, k < n → F k = F' k) : zG D A H0 (ws.set q0 (a, .inl (cA, n, .inr (.inr (.inr (.inr F')))))) H locs := by
  refine ⟨va_P.set G.1 G.2.1 ha ?_ (fun _ _ => rfl), va_D.set G.2.1 ha, G.2.2.1, G.2.2.2⟩
  have h1 : va_at D vwCl (a, .inl (cA, n, .inr (.inr (.inr (.inr F))))) H := G.1 q0 _ ha
  have h2 : vp_cell cA (n, .inr (.inr (.inr (.inr F)))) = vp_cell cA (n, .inr (.inr (.inr (.inr F')))) := by
    rw [vp_cell_q, vp_cell_q]
    exact arrV_congr (fun j hj => by rw [h j hj])
  exact h1.trans (congrArg some h2)
theorem zG.pull {core T x : va_W} (G : zG D A H0 (core ++ T ++ x) H locs) : zG D A H0 (core ++ (x ++ T)) H locs :=
  G.perm (by rw [List.append_assoc]; exact List.Perm.append_left core List.perm_append_comm)
theorem zG.push {core T x : va_W} (G : zG D A H0 (core ++ (x ++ T)) H locs) : zG D A H0 (core ++ (T ++ x)) H locs :=
  G.perm (List.Perm.append_left core List.perm_append_comm)
end ZM
