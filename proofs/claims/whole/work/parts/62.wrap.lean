/-! the law's wrappers: a call and its answer, or its exception's number -/
def zNcP : List (String × String) := [("java/lang/IllegalStateException", "java/lang/IllegalArgumentException"), ("java/lang/IllegalStateException", "java/lang/IndexOutOfBoundsException"), ("java/lang/IllegalArgumentException", "java/lang/IllegalStateException"), ("java/lang/IllegalArgumentException", "java/lang/IndexOutOfBoundsException"), ("java/lang/IndexOutOfBoundsException", "java/lang/IllegalArgumentException"), ("java/lang/IndexOutOfBoundsException", "java/lang/IllegalStateException")]
def zNc (U : State) : Prop := ∀ q ∈ zNcP, va_Nc q.1 q.2 U
theorem zNc.moved {s U : State} (hW : s.WarmedH U.vm) (h : zNc s) : zNc U := fun q hq => (h q hq).moved hW.alike
theorem zNc.same {s U : State} (hv : s.vm = U.vm) (h : zNc s) : zNc U := fun q hq => by
  obtain ⟨c, t, h1, h2, h3⟩ := h q hq
  exact ⟨c, t, by rw [← hv]; exact h1, by rw [← hv]; exact h2, by rw [← hv]; exact h3⟩
def zPreL (D : va_G) (k4 : Nat → ClassId) (ws : va_W) (sz : Nat) (U : State) : Prop := zPreX D k4 ws sz U ∧ zNc U
theorem zPreL_blind {D : va_G} {k4 : Nat → ClassId} {ws : va_W} {sz : Nat} {av : List Value} : FrameBlind (va_Pc av (zPreL D k4 ws sz)) := by
  intro a U g mk q
  obtain ⟨q0, q1, q2⟩ := q
  obtain ⟨r0, r1⟩ := zPreX_blind (D := D) (k4 := k4) (ws := ws) (sz := sz) (av := av) a U g mk ⟨q0, q1⟩
  exact ⟨r0, r1, zNc.same (s := U) (U := U.calling g mk a) rfl q2⟩
def zWW (y : MethodName) (cc : ByteArray) (n : Nat) (r : Option FieldType) (hh : List (Nat × Nat × Nat × Nat)) : List Cond := Cond.codeWith y cc n r hh :: zT
def zCL (l : Launch) (y : MethodName) (wds : List Cond) (rm : Room) (D : va_G) (k4 : Nat → ClassId) (av : List Value) (ws : va_W) (mc ms : Nat) (Qv : Option Value → va_W → Prop) : Prop :=
  ∀ sz : Nat, Met l y wds rm (va_Pc av (zPreL D k4 ws sz)) (zQ D ws (va_A ws sz) Qv) mc ms (va_A ws sz)
/-- a part of a world that stands at its end -/
theorem suf_map {α : Type} : ∀ (wc pre : List α), (List.range' pre.length wc.length).map (fun i => (pre ++ wc)[i]?) = wc.map some
  | [], pre => rfl
  | c :: wc, pre => by
    have ih := suf_map wc (pre ++ [c])
    rw [List.length_append] at ih
    show (pre ++ c :: wc)[pre.length]? :: (List.range' (pre.length + 1) wc.length).map (fun i => (pre ++ c :: wc)[i]?) = some c :: wc.map some
    rw [show pre ++ c :: wc = pre ++ [c] ++ wc by simp]
    rw [show (pre ++ [c] ++ wc)[pre.length]? = some c by simp]
    exact congrArg _ ih
theorem zput_suf : ∀ (wc w pre : va_W), wc.length ≤ w.length → zput (List.range' pre.length wc.length) (pre ++ wc) w = pre ++ w
  | [], [], pre, _ => rfl
  | [], q :: w, pre, _ => by
    show pre ++ [] ++ (q :: w) = _
    rw [List.append_nil]
  | c :: wc, [], pre, h => absurd h (by simp)
  | c :: wc, q :: w, pre, h => by
    have ih := zput_suf wc w (pre ++ [q]) (by simpa using h)
    rw [List.length_append] at ih
    show zput (List.range' (pre.length + 1) wc.length) ((pre ++ c :: wc).set pre.length q) w = pre ++ q :: w
    rw [show (pre ++ c :: wc).set pre.length q = pre ++ [q] ++ wc by simp]
    rw [show pre ++ q :: w = pre ++ [q] ++ w by simp]
    exact ih
section ZWR
variable {p : Program} {l : Launch} {e : Env} {R : Room} {s : State} {m : MethodId} {args : Array Value} {below : List Frame} {meth : Method} {c : Code} {H : Heap} {locs : List Loc} {cells slots : Nat} {Q : State → Prop}
variable {cc : ByteArray} {nL : Nat} {own : String} {D : va_G} {k4 : Nat → ClassId} {pc : Nat} {ls : Array Slot} {rest st0 : List Value} {A : Nat → Prop} {H0 : Heap} {ws wc : va_W} {a b : Nat}
variable {y : MethodName} {bytes : ByteArray} {maxL n mc ms index : Nat} {ret : Option FieldType} {rm : Room} {As : List Value} {Qv : Option Value → va_W → Prop} {C Ex : String} {hh : List (Nat × Nat × Nat × Nat)}
/-- what a wrapper has at hand of the tables and of its own table -/
def zEL (s : State) (A : Nat → Prop) : Prop := zXS s ∧ zXZ A s s.heap ∧ zNc s
theorem zEL.redraw (X : zEL s A) (d : Drawn) : zEL (s.setDrawn d) A := ⟨zXS.same (s := s) (U := s.setDrawn d) rfl X.1, zXZ.moved (u := s) (U := s.setDrawn d) (H := s.heap) (Vm.Alike.refl s.vm) X.2.1, zNc.same (s := s) (U := s.setDrawn d) rfl X.2.2⟩
theorem zCL_of {av : List Value} (hy : plainName y.cls = true) (hav : (lg_sl av).length ≤ maxL)
    (body : ∀ (p : Program) (e : Env) (s : State) (m : MethodId) (below : List Frame) (meth : Method) (c : Code) (A : Nat → Prop) (H : Heap) (locs : List Loc) (ls : Array Slot), zE p m c cc maxL s av.toArray y.cls D k4 → meth.sig.returnType = ret → meth.locks = false → zEL s A → c.exceptionTable.toList = tableOf hh →
      zG D A s.heap ws H locs → lv_has ls maxL (lv_args 0 av) →
      W p l e rm s m av.toArray below meth c H locs 0 0 (MQ below (zQ D ws A Qv) av.toArray s mc ms A) (F0 m 0 ls [])) : zCL l y (zWW y cc maxL ret hh) rm D k4 av ws mc ms Qv := by
  intro sz
  refine va_MetW (cc := cc) (maxL := maxL) (ret := ret) (hh := hh) hy rfl ?_
  intro p e s m args below meth c s₁ B hml hv
  obtain ⟨rfl, ⟨⟨hsz, hP, hK, hD0⟩, hXS, hXZ⟩, hN⟩ := hv
  subst hsz
  have hts := atoms_spec (ws := zWW y cc maxL ret hh) B.pre
  have hD := hD0.self (sz := s.heap.size)
  have hl := lv_entry av (n := maxL) hav
  have htab := vx_table (x := y) B (hts _ List.mem_cons_self)
  rw [lg_entry_eq]
  exact body p e s m below meth c (va_A ws s.heap.size) s.heap [] _ ⟨B.exec, B.bytes, hml, findClass_of_methodNamed B.named, fun w h => hts w (List.mem_cons_of_mem _ h), hK⟩ B.returns B.notSynchronized ⟨hXS, hXZ, hN⟩ htab ⟨hP, hD, va_S.rf, fun q h => Or.inr h⟩ hl
theorem z_preL (E : zE p m c cc nL s args own D k4) (X : zEL s A) (G : zG D A s.heap ws H locs) (is : List Nat) (hC : is.map (fun i => ws[i]?) = wc.map some) (hn : is.Nodup) (av : List Value) :
    ∀ U : State, U.heap = H → s.WarmedH U.vm → va_Pc av (zPreL D k4 wc H.size) av.toArray U := by
  intro U hU hW
  obtain ⟨-, h1⟩ := z_pre E G is hC hn av U hU hW
  have hF : ∀ q, va_A wc H.size q → A q := va_free (wc := wc) G.2.1 G.2.2.1 G.2.2.2 is hC
  refine ⟨rfl, ⟨h1, X.1.moved hW, ?_⟩, X.2.2.moved hW⟩
  rw [hU]
  exact (((zXZ.moved (u := s) (U := U) hW.alike X.2.1)).kept (fun q h1 h2 => G.2.2.1.2.1 q h1 h2)).narrow hF
theorem z_afterS {av : Array Value} {pre : va_W} (G : zG D A H0 (pre ++ wc) H locs)
    (hr : va_Run p l e R s m args below meth c H locs cells slots mc ms (F0 m pc ls st0) rest (zQ D wc (va_A wc H.size) Qv av) (va_A wc H.size))
    (kk : ∀ (v : Option Value) (w : va_W) (H1 : Heap) (locs1 : List Loc), Qv v w → zG D A H0 (pre ++ w) H1 locs1 → W p l e R s m args below meth c H1 locs1 (cells + mc) (slots + ms) Q (F0 m (pc + 3) ls (v.toList ++ rest))) :
    W p l e R s m args below meth c H locs cells slots Q (F0 m pc ls st0) := by
  have hr' : va_Run p l e R s m args below meth c H locs cells slots mc ms (F0 m pc ls st0) rest (zQ D wc (va_A wc H.size) (fun v w => Qv v w ∧ wc.length ≤ w.length) av) (va_A wc H.size) := fun T hT X => by
    obtain ⟨v, st₀, t, T', L, h0, X', hL, e1, e2, ⟨⟨v9, w, hv, hq, hP1, hD1, x, hx⟩, hF⟩, st⟩ := hr T hT X
    exact ⟨v, st₀, t, T', L, h0, X', hL, e1, e2, ⟨⟨v9, w, hv, ⟨hq, by have := congrArg List.length hx; simp at this; omega⟩, hP1, hD1, x, hx⟩, hF⟩, st⟩
  exact z_after G (List.range' pre.length wc.length) (suf_map wc pre) List.nodup_range' hr' (fun v w H1 locs1 hq G9 => kk v w H1 locs1 hq.1 (zput_suf wc w pre hq.2 ▸ G9))
/-- a call of a method whose world stands at the end of the caller's -/
theorem z_callVs {pre : va_W} (E : zE p m c cc nL s args own D k4) (G : zG D A H0 (pre ++ wc) H locs) (hls : ls.size = nL) (hC : zC l y (zW y bytes maxL ret) rm D k4 (.ref b :: As) wc mc ms Qv) (hL : zLV own index C y bytes maxL ret n)
    (hrm : rm.cells = mc ∧ rm.slots = ms ∧ rm.frames + 1 ≤ R.frames ∧ 8 + (maxL + 11) + rm.locals ≤ R.locals)
    (q0 ci : Nat) {cq : vw_C} {fs : List Value} (hcl : vwCl[ci]? = some cq) (hcC : cq.1 = C) (he : (pre ++ wc)[q0]? = some (b, .inr (ci, fs))) (hn : As.length = n) (hst : st0 = As.reverse ++ .ref b :: rest) (hW : (rest.map fun v => v.category).sum ≤ 8) (hdg : decode cc pc = .ok (.invokevirtual index, 3)) (hf : cells + mc ≤ R.cells ∧ slots + ms ≤ R.slots)
    (kk : ∀ (v : Option Value) (w : va_W) (H1 : Heap) (locs1 : List Loc), Qv v w → zG D A H0 (pre ++ w) H1 locs1 → W p l e R s m args below meth c H1 locs1 (cells + mc) (slots + ms) Q (F0 m (pc + 3) ls (v.toList ++ rest))) :
    W p l e R s m args below meth c H locs cells slots Q (F0 m pc ls st0) := by
  obtain ⟨⟨w1, w2, w3, w4, w5⟩, d1, d2, d3⟩ := hL
  have hrecv := va_recv E.2.2.2.2.2.1 G.1 hcl he
  rw [hcC] at hrecv
  exact z_afterS G (va_runV E.fix (hC H.size) ⟨⟨hrm.1, hrm.2.1, hrm.2.2.1, hrm.2.2.2, E.good w5, List.mem_cons_self, E.w w5, E.w w4, ⟨d1, d2⟩, fun sig h => by rw [h] at d3; exact (Option.some.inj d3).symm, E.w w1⟩, E.w w2, E.w w3⟩
    ⟨zPre_blind, hrecv, z_pre E G (List.range' pre.length wc.length) (suf_map wc pre) List.nodup_range' (.ref b :: As)⟩ rfl hn hls hst (lv_room hW) hdg hf) kk
/-- a call that throws, caught here: the walk goes on at the handler -/
theorem z_caught {pre9 : va_W} (E : zE p m c cc nL s args own D k4) (X : zEL s A) (htab : c.exceptionTable.toList = tableOf hh) (G : zG D A s.heap (pre9 ++ wc) H locs) (hls : ls.size = nL) (hC : zCX l y (zW y bytes maxL ret) rm D k4 (.ref b :: As) wc Ex) (hL : zLV own index C y bytes maxL ret n)
    (hrm : rm.cells = 1 ∧ rm.slots = 6 ∧ rm.frames + 1 ≤ R.frames ∧ 8 + (maxL + 11) + rm.locals ≤ R.locals)
    (q0 ci : Nat) {cq : vw_C} {fs : List Value} (hcl : vwCl[ci]? = some cq) (hcC : cq.1 = C) (he : (pre9 ++ wc)[q0]? = some (b, .inr (ci, fs))) (hn : As.length = n) (hst : st0 = As.reverse ++ .ref b :: rest) (hW : (rest.map fun v => v.category).sum ≤ 8) (hdg : decode cc pc = .ok (.invokevirtual index, 3)) (hf : cells + 1 ≤ R.cells ∧ slots + 6 ≤ R.slots)
    (pre : List (Nat × Nat × Nat × Nat)) (x : Nat × Nat × Nat × Nat) (suf : List (Nat × Nat × Nat × Nat)) (hsplit : hh = pre ++ x :: suf) (hpass : ∀ z ∈ pre, z.2.2.2 ≠ 0 ∧ ∃ nm : String, Cond.classLink own z.2.2.2 nm ∈ zA ∧ (Ex, nm) ∈ zNcP) (hx : covers ⟨x.1, x.2.1, x.2.2.1, x.2.2.2⟩ pc = true) (h0 : x.2.2.2 ≠ 0) (hlink : Cond.classLink own x.2.2.2 Ex ∈ zA) (hcast : Cond.castable Ex Ex ∈ zB)
    (kk : ∀ (q : Nat) (H1 : Heap) (locs1 : List Loc), zG D A s.heap (pre9 ++ wc) H1 locs1 → W p l e R s m args below meth c H1 locs1 (cells + 1) (slots + 6) Q (F0 m x.2.2.1 ls [.ref q])) :
    W p l e R s m args below meth c H locs cells slots Q (F0 m pc ls st0) := by
  obtain ⟨⟨w1, w2, w3, w4, w5⟩, d1, d2, d3⟩ := hL
  have hrecv := va_recv E.2.2.2.2.2.1 G.1 hcl he
  rw [hcC] at hrecv
  have hi := suf_map wc pre9
  have hnd : (List.range' pre9.length wc.length).Nodup := List.nodup_range'
  have hr : vx_Run p l e R s m args below meth c H locs cells slots 1 6 (F0 m pc ls st0) rest (fun _ _ _ => False) (zXC D wc (va_A wc H.size) Ex) (va_A wc H.size) := vx_runV E.fix (hC H.size) ⟨⟨hrm.1, hrm.2.1, hrm.2.2.1, hrm.2.2.2, E.good w5, List.mem_cons_self, E.w w5, E.w w4, ⟨d1, d2⟩, fun sig h => by rw [h] at d3; exact (Option.some.inj d3).symm, E.w w1⟩, E.w w2, E.w w3⟩
    ⟨zPreX_blind, hrecv, fun U hU hW9 => by have h9 := z_preL E X G _ hi hnd (.ref b :: As) U hU hW9; exact ⟨h9.1, h9.2.1⟩⟩ rfl hn hls hst (lv_room hW) hdg hf
  have hF : ∀ q, va_A wc H.size q → A q := va_free (wc := wc) G.2.1 G.2.2.1 G.2.2.2 _ hi
  intro T hT X9
  rcases hr T hT X9 with ⟨v, st₀, t, T', L, e0, X', hL, e1, e2, hq, st⟩ | ⟨q, st₀, t, T', L, E9, ce, e0, X', hL, e1, e2, ⟨rfl, hP1, hz, hk⟩, hce, hcv, hcl9, st⟩
  · exact hq.elim
  · rw [e0] at hz hk
    rw [← e1] at hP1
    have hD1 : va_D (va_A wc H.size) wc := ((z_pre E G _ hi hnd [] T hT X9.warmed).2.2.2.2).self
    obtain ⟨j1, j2⟩ := zput_join (A0 := A) G.1 G.2.1 hi hnd (H1 := T'.heap) (x := []) (fun q h1 h2 => by rw [e1]; exact hk q h1 h2) hF hP1 hD1 (by rw [List.append_nil])
    rw [zput_self _ _ wc hi] at j1 j2
    have G9 : zG D A s.heap (pre9 ++ wc) T'.heap (locs ++ L) := ⟨j1, j2, ⟨Nat.le_trans G.2.2.1.1 (by rw [e1]; exact hz), fun q h1 h2 => by rw [e1, hk q (Nat.lt_of_lt_of_le h1 G.2.2.1.1) (fun z => h2 (hF q z))]; exact G.2.2.1.2.1 q h1 h2, fun z hz => by
      rcases List.mem_append.mp hz with h | h
      · exact G.2.2.1.2.2 z h
      · exact hF _ (hL z h)⟩, G.2.2.2⟩
    have hkk := vx_catch (Q := Q) (p := p) (l := l) (e := e) (R := R) (s := s) (m := m) (args := args) (below := below) (meth := meth) (c := c) (H := T'.heap) (locs := locs ++ L) (cells := cells + 1) (slots := slots + 6) (pc := pc) (ls := ls) (rest := rest) (q := q) (ce := ce) (E := E9) (own := own) (name := E9) E.2.2.2.1 (tableOf pre) ⟨x.1, x.2.1, x.2.2.1, x.2.2.2⟩ (tableOf suf) (by rw [htab, hsplit]; simp [tableOf])
      (fun z hz => by
        obtain ⟨z0, hz0, rfl⟩ := List.mem_map.mp hz
        obtain ⟨a1, nm, a2, a3⟩ := hpass z0 hz0
        exact Or.inr ⟨a1, nm, E.w a2, X.2.2 _ a3⟩) hx h0 (E.w hlink) (va_Nw.use rfl (X.1.1 _ hcast)) (by rw [e1]; exact hce) hcv hcl9 (kk q T'.heap (locs ++ L) G9)
    obtain ⟨t2, a1, b1⟩ := hkk T' rfl X'
    exact ⟨t2, st.trans a1, b1⟩
/-- the law calls a wrapper -/
theorem z_callL {pre : va_W} (E : zE p m c cc nL s args own D k4) (X : zEL s A) (G : zG D A s.heap (pre ++ wc) H locs) (hls : ls.size = nL) (hC : zCL l y (zWW y bytes maxL ret hh) rm D k4 As wc mc ms Qv)
    (w1 : Cond.methodLink own index y ∈ zA) (w2 : Cond.static y ∈ zA) (w3 : Cond.initialized y.cls ∈ zA) (w4 : Cond.codeWith y bytes maxL ret hh ∈ zA) (hd : y.cls ≠ "java/lang/invoke/MethodHandle" ∧ y.cls ≠ "java/lang/invoke/VarHandle") (hp : (parseMethodDescriptor y.desc).map (fun d => d.parameters.length) = some n)
    (hrm : rm.cells = mc ∧ rm.slots = ms ∧ rm.frames + 1 ≤ R.frames ∧ 8 + (maxL + 11) + rm.locals ≤ R.locals)
    (hn : As.length = n) (hst : st0 = As.reverse ++ rest) (hW : (rest.map fun v => v.category).sum ≤ 8) (hdg : decode cc pc = .ok (.invokestatic index, 3)) (hf : cells + mc ≤ R.cells ∧ slots + ms ≤ R.slots)
    (kk : ∀ (v : Option Value) (w : va_W) (H1 : Heap) (locs1 : List Loc), Qv v w → zG D A s.heap (pre ++ w) H1 locs1 → W p l e R s m args below meth c H1 locs1 (cells + mc) (slots + ms) Q (F0 m (pc + 3) ls (v.toList ++ rest))) :
    W p l e R s m args below meth c H locs cells slots Q (F0 m pc ls st0) := by
  refine z_afterS G (vx_runSW (hh := hh) E.fix (hC H.size) ⟨⟨hrm.1, hrm.2.1, hrm.2.2.1, hrm.2.2.2, ?_, List.mem_cons_self⟩, E.w w4, E.w w3, hd, fun sig h => ?_, E.w w1, E.w w2⟩ ⟨zPreL_blind, z_preL E X G _ (suf_map wc pre) List.nodup_range' As⟩ rfl hn hls hst (lv_room hW) hdg hf) kk
  · intro w hw a' U hW9
    rcases List.mem_cons.mp hw with rfl | hw
    · exact word_at hW9 (zT_good _ (zT_A w4)).2 (E.w w4)
    · exact word_at hW9 (zT_good _ hw).2 (E.hts hw)
  · rw [h] at hp
    exact (Option.some.inj hp).symm
end ZWR
