/-! System.arraycopy of int rows, and the clone of one -/
def cpyI (F X : Nat → Int) (sp dp n : Nat) : Nat → Int := fun k => if dp ≤ k ∧ k < dp + n then F (sp + (k - dp)) else X k
section ZCPY
variable {p : Program} {l : Launch} {e : Env} {R : Room} {s : State} {m : MethodId} {args : Array Value} {below : List Frame} {meth : Method} {c : Code} {H : Heap} {locs : List Loc} {cells slots : Nat} {Q : State → Prop}
variable {cc : ByteArray} {nL : Nat} {own : String} {D : va_G} {k4 : Nat → ClassId} {pc : Nat} {ls : Array Slot} {rest : List Value} {A : Nat → Prop} {H0 : Heap} {ws : va_W} {a : Nat}
theorem z_copyi (E : zE p m c cc nL s args own D k4) (G : zG D A H0 ws H locs) (hsz : ls.size = nL) {index : Nat} (w1 : Cond.methodLink own index arraycopyName ∈ zA) (w2 : Cond.native arraycopyName ∈ zA) (w3 : Cond.static arraycopyName ∈ zA) (w4 : Cond.initialized "java/lang/System" ∈ zA)
    (q0 q1 : Nat) {a0 n0 n1 : Nat} {F X : Nat → Int} (ha0 : ws[q0]? = some (a0, .inl (k4 0, n0, .inl (fun k => iI (F k))))) (ha1 : ws[q1]? = some (a, .inl (k4 0, n1, .inl (fun k => iI (X k))))) {zs zd zn : Int} (sp dp n : Nat) (hs : zs = (sp : Int)) (hd : zd = (dp : Int)) (hn : zn = (n : Int)) (h4 : sp + n ≤ n0) (h5 : dp + n ≤ n1) (hb0 : n0 ≤ 100000) (hb1 : n1 ≤ 100000)
    (hfr : 1 ≤ R.frames) (hlo : (rest.map fun v => v.category).sum + 18 ≤ R.locals) (hdg : decode cc pc = .ok (.invokestatic index, 3))
    (kk : ∀ (H1 : Heap) (locs1 : List Loc), zG D A H0 (ws.set q1 (a, .inl (k4 0, n1, .inl (fun k => iI (cpyI F X sp dp n k))))) H1 locs1 → W p l e R s m args below meth c H1 locs1 cells slots Q (F0 m (pc + 3) ls rest)) : W p l e R s m args below meth c H locs cells slots Q (F0 m pc ls (.int (iI zn) :: .int (iI zd) :: .ref a :: .int (iI zs) :: .ref a0 :: rest)) := by
  subst hs hd hn
  have e1 : (iI (sp : Int)).toNatClampNeg = sp := iI_clamp (by omega)
  have e2 : (iI (dp : Int)).toNatClampNeg = dp := iI_clamp (by omega)
  have e3 : (iI (n : Int)).toNatClampNeg = n := iI_clamp (by omega)
  have nn : ∀ k : Nat, k ≤ 100000 → ¬ iI (k : Int) < 0 := fun k hk q => by have := (iI_lt ⟨by omega, by omega⟩ rng0).mp q; omega
  refine va_copyi (ty := .int) E.1 E.2.1 (E.2.2.1.trans hsz.symm) E.2.2.2.1 (E.w w1) (E.w w2) (E.w w3) (E.w w4) E.2.2.2.2.2.1 G.1 G.2.1 G.2.2.1 q0 q1 0 0 ha0 ha1 rfl rfl rfl (nn sp (by omega)) (nn dp (by omega)) (nn n (by omega)) (by rw [e1, e3]; exact h4) (by rw [e2, e3]; exact h5) (fun _ _ => rfl) hfr (Nat.le_trans (Nat.add_le_add_left (by decide) _) hlo) hdg (fun H1 locs1 hP hD hS => ?_)
  rw [e1, e2, e3] at hP hD
  have hf : va_cpy (fun k => iI (F k)) (fun k => iI (X k)) sp dp n = fun k => iI (cpyI F X sp dp n k) := by
    funext k
    show (if dp ≤ k ∧ k < dp + n then iI (F (sp + (k - dp))) else iI (X k)) = iI (if dp ≤ k ∧ k < dp + n then F (sp + (k - dp)) else X k)
    split <;> rfl
  rw [hf] at hP hD
  exact kk H1 locs1 ⟨hP, hD, hS, G.2.2.2⟩
theorem z_clonei (E : zE p m c cc nL s args own D k4) (G : zG D A H0 ws H locs) (hsz : ls.size = nL) {index : Nat} (w1 : Cond.methodLink own index ⟨"[I", "clone", "()Ljava/lang/Object;"⟩ ∈ zA) (w2 : Cond.sameMethod "[I" "java/lang/Object" "clone" "()Ljava/lang/Object;" ∈ zA) (w3 : Cond.native ⟨"java/lang/Object", "clone", "()Ljava/lang/Object;"⟩ ∈ zA) (w4 : Cond.instanceMethod ⟨"java/lang/Object", "clone", "()Ljava/lang/Object;"⟩ ∈ zA) (w5 : Cond.selects "[I" ⟨"[I", "clone", "()Ljava/lang/Object;"⟩ ⟨"java/lang/Object", "clone", "()Ljava/lang/Object;"⟩ ∈ zA)
    (q0 : Nat) {n0 : Nat} {F : Nat → Int} (ha : ws[q0]? = some (a, .inl (k4 0, n0, .inl (fun k => iI (F k)))))
    (hfr : 1 ≤ R.frames) (hlo : (rest.map fun v => v.category).sum + 14 ≤ R.locals) (hc : cells + 1 ≤ R.cells) (hs : slots + n0 ≤ R.slots) (hdg : decode cc pc = .ok (.invokevirtual index, 3))
    (kk : ∀ (q : Nat) (H1 : Heap), zG D A H0 (ws ++ [(q, .inl (k4 0, n0, .inl (fun k => iI (F k))))]) H1 locs → W p l e R s m args below meth c H1 locs (cells + 1) (slots + n0) Q (F0 m (pc + 3) ls (.ref q :: rest))) : W p l e R s m args below meth c H locs cells slots Q (F0 m pc ls (.ref a :: rest)) := by
  refine va_clone (ty := .int) E.1 E.2.1 (E.2.2.1.trans hsz.symm) E.2.2.2.1 (E.w w1) (E.w w2) (E.w w3) (E.w w4) (E.w w5) E.2.2.2.2.2.2.2.2 E.2.2.2.2.2.1 G.1 G.2.1 G.2.2.1 G.2.2.2 q0 0 ha rfl (E.2.2.2.2.2.1.2 0 (k4 0, .int) rfl).2 ?_ hfr hlo hc hs hdg (fun q H1 _ hP hD hS => kk q H1 ⟨hP, hD, hS, G.2.2.2⟩)
  intro i v hv
  rcases Nat.lt_or_ge i n0 with hi | hi
  · rw [show (vp_cell (k4 0) (n0, .inl (fun k => iI (F k)))).slots[i]? = some (.int (iI (F i))) from arrV_read _ _ hi] at hv
    cases hv; rfl
  · rw [Array.getElem?_eq_none (by show _ ≤ i; exact Nat.le_trans (Nat.le_of_eq (arrV_size _ _ _)) hi)] at hv
    cases hv
theorem z_castI (E : zE p m c cc nL s args own D k4) (G : zG D A H0 ws H locs) {index : Nat} (w : Cond.classLink own index "[I" ∈ zA) (q0 : Nat) {n0 : Nat} {F : Nat → Int} (ha : ws[q0]? = some (a, .inl (k4 0, n0, .inl (fun k => iI (F k))))) (hdg : decode cc pc = .ok (.checkcast index, 3))
    (kk : W p l e R s m args below meth c H locs cells slots Q (F0 m (pc + 3) ls (.ref a :: rest))) : W p l e R s m args below meth c H locs cells slots Q (F0 m pc ls (.ref a :: rest)) :=
  va_castA E.1 E.2.1 E.2.2.2.1 (E.w w) G.1 q0 ha (E.2.2.2.2.2.1.2 0 (k4 0, .int) rfl).2 hdg kk
end ZCPY
