/-! throwing: a walk's start, a call that throws -/
theorem zput_self : ∀ (is : List Nat) (ws wc : va_W), is.map (fun i => ws[i]?) = wc.map some → zput is ws wc = ws
  | [], ws, wc, h => by
    cases wc with
    | nil => simp [zput]
    | cons a b => cases h
  | i :: is, ws, wc, h => by
    cases wc with
    | nil => cases h
    | cons q w =>
      have h1 : ws[i]? = some q := (List.cons.inj h).1
      have h2 := (List.cons.inj h).2
      have h3 : ws.set i q = ws := by
        refine List.ext_getElem? fun k => ?_
        rw [List.getElem?_set]
        split
        · rename_i e; subst e
          obtain ⟨g, e⟩ := List.getElem?_eq_some_iff.mp h1
          rw [if_pos g, h1]
        · rfl
      show zput is (ws.set i q) w = ws
      rw [h3]; exact zput_self is ws w h2
section ZXR
variable {p : Program} {l : Launch} {e : Env} {R : Room} {s : State} {m : MethodId} {args : Array Value} {below : List Frame} {meth : Method} {c : Code} {H : Heap} {locs : List Loc} {cells slots : Nat} {Q : State → Prop}
variable {cc : ByteArray} {nL : Nat} {own : String} {D : va_G} {k4 : Nat → ClassId} {pc : Nat} {ls : Array Slot} {rest st0 : List Value} {A : Nat → Prop} {H0 : Heap} {ws wc : va_W} {a b : Nat}
variable {y : MethodName} {bytes : ByteArray} {maxL n mc ms index : Nat} {ret : Option FieldType} {rm : Room} {As : List Value} {Qv : Option Value → va_W → Prop} {C Ex : String}
/-- what a walk that throws has at hand -/
def zEX (c : Code) (meth : Method) (s : State) (A : Nat → Prop) : Prop := zXS s ∧ zXZ A s s.heap ∧ c.exceptionTable.toList = [] ∧ meth.locks = false
theorem zCX_of {y : MethodName} {maxL : Nat} {ret : Option FieldType} {rm : Room} {av : List Value} (hy : plainName y.cls = true) (hav : (lg_sl av).length ≤ maxL)
    (body : ∀ (p : Program) (e : Env) (s : State) (m : MethodId) (below : List Frame) (meth : Method) (c : Code) (A : Nat → Prop) (H : Heap) (locs : List Loc) (ls : Array Slot), zE p m c cc maxL s av.toArray y.cls D k4 → zEX c meth s A →
      zG D A s.heap ws H locs → lv_has ls maxL (lv_args 0 av) →
      W p l e rm s m av.toArray below meth c H locs 0 0 (vx_MQ below (fun _ _ _ _ => False) (zXC D ws A Ex) av.toArray s 1 6 A) (F0 m 0 ls [])) : zCX l y (zW y cc maxL ret) rm D k4 av ws Ex := by
  intro sz
  refine vx_ofW (cc := cc) (maxL := maxL) (ret := ret) hy rfl ?_
  intro p e s m args below meth c s₁ B hml hx hv
  obtain ⟨rfl, ⟨hsz, hP, hK, hD0⟩, hXS, hXZ⟩ := hv
  subst hsz
  have hts := atoms_spec (ws := zW y cc maxL ret) B.pre
  have hD := hD0.self (sz := s.heap.size)
  have hl := lv_entry av (n := maxL) hav
  rw [lg_entry_eq]
  exact body p e s m below meth c (va_A ws s.heap.size) s.heap [] _ ⟨B.exec, B.bytes, hml, findClass_of_methodNamed B.named, fun w h => hts w (List.mem_cons_of_mem _ h), hK⟩ ⟨hXS, hXZ, List.eq_nil_iff_forall_not_mem.mpr hx, B.notSynchronized⟩ ⟨hP, hD, va_S.rf, fun q h => Or.inr h⟩ hl
theorem z_preX (E : zE p m c cc nL s args own D k4) (X : zEX c meth s A) (G : zG D A s.heap ws H locs) (is : List Nat) (hC : is.map (fun i => ws[i]?) = wc.map some) (hn : is.Nodup) (av : List Value) :
    ∀ U : State, U.heap = H → s.WarmedH U.vm → va_Pc av (zPreX D k4 wc H.size) av.toArray U := by
  intro U hU hW
  obtain ⟨-, h1⟩ := z_pre E G is hC hn av U hU hW
  have hF : ∀ q, va_A wc H.size q → A q := va_free (wc := wc) G.2.1 G.2.2.1 G.2.2.2 is hC
  refine ⟨rfl, h1, X.1.moved hW, ?_⟩
  rw [hU]
  exact (((zXZ.moved (u := s) (U := U) hW.alike X.2.1)).kept (fun q h1 h2 => G.2.2.1.2.1 q h1 h2)).narrow hF
theorem z_gone (EE : zE p m c cc nL s args own D k4) (X : zEX c meth s A) (G : zG D A s.heap ws H locs) (is : List Nat) (hC : is.map (fun i => ws[i]?) = wc.map some) (hn : is.Nodup)
    (hr : vx_Run p l e R s m args below meth c H locs cells slots 1 6 (F0 m pc ls st0) rest (fun _ _ _ => False) (zXC D wc (va_A wc H.size) Ex) (va_A wc H.size)) (hc : cells = 0) (hs : slots = 0) :
    W p l e R s m args below meth c H locs cells slots (vx_MQ below (fun _ _ _ _ => False) (zXC D ws A Ex) args s 1 6 A) (F0 m pc ls st0) := by
  have hF : ∀ q, va_A wc H.size q → A q := va_free (wc := wc) G.2.1 G.2.2.1 G.2.2.2 is hC
  intro T hT X9
  rcases hr T hT X9 with ⟨v, st₀, t, T', L, h0, X', hL, e1, e2, hq, st⟩ | ⟨q, st₀, t, T', L, E, ce, h0, X', hL, e1, e2, ⟨rfl, hP1, hz, hk⟩, hce, hcv, hcl, st⟩
  · exact hq.elim
  · rw [h0] at hz hk
    rw [← e1] at hP1
    have hD1 : va_D (va_A wc H.size) wc := ((z_pre EE G is hC hn [] T hT X9.warmed).2.2.2.2).self
    have hP9 := (zput_join (A0 := A) G.1 G.2.1 hC hn (H1 := T'.heap) (x := []) (fun q h1 h2 => by rw [e1]; exact hk q h1 h2) hF hP1 hD1 (by rw [List.append_nil])).1
    rw [zput_self is ws wc hC] at hP9
    obtain ⟨t2, a1, b1⟩ := vx_out (p := p) (l := l) (e := e) (R := R) (s := s) (m := m) (args := args) (below := below) (meth := meth) (c := c) (H := T'.heap) (locs := locs ++ L) (cells := cells + 1) (slots := slots + 6) (rest := rest) (Qc := fun _ _ _ _ => False) (XC := zXC D ws A E) (mc := 1) (ms := 6) (free := A) (pc := pc) (ls := ls) (q := q) (ce := ce) (E := E)
      (by rw [X.2.2.1]; intro x hx; exact absurd hx List.not_mem_nil) X.2.2.2 (by rw [e1]; exact hce) hcv hcl (fun u hu _ => ⟨rfl, by rw [hu]; exact hP9, Nat.le_trans G.2.2.1.1 (by rw [hu, e1]; exact hz), fun q h1 h2 => by rw [hu, e1, hk q (Nat.lt_of_lt_of_le h1 G.2.2.1.1) (fun z => h2 (hF q z))]; exact G.2.2.1.2.1 q h1 h2⟩) (fun z hz => by
        rcases List.mem_append.mp hz with h | h
        · exact G.2.2.1.2.2 z h
        · exact hF _ (hL z h)) (by omega) (by omega) T' rfl X'
    exact ⟨t2, st.trans a1, b1⟩
theorem z_thrV (E : zE p m c cc nL s args own D k4) (X : zEX c meth s A) (G : zG D A s.heap ws H locs) (hls : ls.size = nL) (hC : zCX l y (zW y bytes maxL ret) rm D k4 (.ref b :: As) wc Ex) (hL : zLV own index C y bytes maxL ret n)
    (hrm : rm.cells = 1 ∧ rm.slots = 6 ∧ rm.frames + 1 ≤ R.frames ∧ 8 + (maxL + 11) + rm.locals ≤ R.locals) (is : List Nat) (hi : is.map (fun i => ws[i]?) = wc.map some) (hnd : is.Nodup)
    (q0 ci : Nat) {cq : vw_C} {fs : List Value} (hcl : vwCl[ci]? = some cq) (hcC : cq.1 = C) (he : ws[q0]? = some (b, .inr (ci, fs))) (hn : As.length = n) (hst : st0 = As.reverse ++ .ref b :: rest) (hW : (rest.map fun v => v.category).sum ≤ 8) (hdg : decode cc pc = .ok (.invokevirtual index, 3)) (hf : cells + 1 ≤ R.cells ∧ slots + 6 ≤ R.slots) (hc : cells = 0) (hs : slots = 0) :
    W p l e R s m args below meth c H locs cells slots (vx_MQ below (fun _ _ _ _ => False) (zXC D ws A Ex) args s 1 6 A) (F0 m pc ls st0) := by
  obtain ⟨⟨w1, w2, w3, w4, w5⟩, d1, d2, d3⟩ := hL
  have hrecv := va_recv E.2.2.2.2.2.1 G.1 hcl he
  rw [hcC] at hrecv
  exact z_gone E X G is hi hnd (vx_runV E.fix (hC H.size) ⟨⟨hrm.1, hrm.2.1, hrm.2.2.1, hrm.2.2.2, E.good w5, List.mem_cons_self, E.w w5, E.w w4, ⟨d1, d2⟩, fun sig h => by rw [h] at d3; exact (Option.some.inj d3).symm, E.w w1⟩, E.w w2, E.w w3⟩
    ⟨zPreX_blind, hrecv, z_preX E X G is hi hnd (.ref b :: As)⟩ rfl hn hls hst (lv_room hW) hdg hf) hc hs
theorem z_thrS (E : zE p m c cc nL s args own D k4) (X : zEX c meth s A) (G : zG D A s.heap ws H locs) (hls : ls.size = nL) (hC : zCX l y (zW y bytes maxL ret) rm D k4 As wc Ex) (hL : zLS own index y bytes maxL ret n)
    (hrm : rm.cells = 1 ∧ rm.slots = 6 ∧ rm.frames + 1 ≤ R.frames ∧ 8 + (maxL + 11) + rm.locals ≤ R.locals) (is : List Nat) (hi : is.map (fun i => ws[i]?) = wc.map some) (hnd : is.Nodup)
    (hn : As.length = n) (hst : st0 = As.reverse ++ rest) (hW : (rest.map fun v => v.category).sum ≤ 8) (hdg : decode cc pc = .ok (.invokestatic index, 3)) (hf : cells + 1 ≤ R.cells ∧ slots + 6 ≤ R.slots) (hc : cells = 0) (hs : slots = 0) :
    W p l e R s m args below meth c H locs cells slots (vx_MQ below (fun _ _ _ _ => False) (zXC D ws A Ex) args s 1 6 A) (F0 m pc ls st0) := by
  obtain ⟨⟨w1, w2, w4, w5⟩, d1, d2, d3⟩ := hL
  exact z_gone E X G is hi hnd (vx_runS E.fix (hC H.size) ⟨⟨hrm.1, hrm.2.1, hrm.2.2.1, hrm.2.2.2, E.good w5, List.mem_cons_self, E.w w5, E.w w4, ⟨d1, d2⟩, fun sig h => by rw [h] at d3; exact (Option.some.inj d3).symm, E.w w1⟩, E.w w2⟩
    ⟨zPreX_blind, z_preX E X G is hi hnd As⟩ rfl hn hls hst (lv_room hW) hdg hf) hc hs
end ZXR
/-! the words of the three classes of exceptions -/
theorem zXk0 : Cond.classLink RX4 48 "java/lang/IllegalStateException" ∈ zA := zw_81
theorem zXi0 : Cond.initialized "java/lang/IllegalStateException" ∈ zA := zw_82
theorem zXf0 : Bundle.fit "java/lang/IllegalStateException" = true := by decide +kernel
theorem zXn0 : ∀ w ∈ (vx_atS RX4 52 "java/lang/IllegalStateException" ["java/lang/RuntimeException", "java/lang/Exception"]).filter goodWord, w ∈ zT := by decide +kernel
theorem zXk1 : Cond.classLink RX4 222 "java/lang/IndexOutOfBoundsException" ∈ zA := zw_121
theorem zXi1 : Cond.initialized "java/lang/IndexOutOfBoundsException" ∈ zA := zw_122
theorem zXf1 : Bundle.fit "java/lang/IndexOutOfBoundsException" = true := by decide +kernel
theorem zXn1 : ∀ w ∈ (vx_atS RX4 226 "java/lang/IndexOutOfBoundsException" ["java/lang/RuntimeException", "java/lang/Exception"]).filter goodWord, w ∈ zT := by decide +kernel
theorem zXk2 : Cond.classLink RX4 196 "java/lang/IllegalArgumentException" ∈ zA := zw_126
theorem zXi2 : Cond.initialized "java/lang/IllegalArgumentException" ∈ zA := zw_127
theorem zXf2 : Bundle.fit "java/lang/IllegalArgumentException" = true := by decide +kernel
theorem zXn2 : ∀ w ∈ (vx_atS RX4 200 "java/lang/IllegalArgumentException" ["java/lang/RuntimeException", "java/lang/Exception"]).filter goodWord, w ∈ zT := by decide +kernel
