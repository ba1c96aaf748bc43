/-! calls by contract -/
/-- the words of a call: V an own or foreign instance method, S a static one of the own class, T a static one of another class, I a constructor; N: through a nest mate's link -/
def zLV (own : String) (index : Nat) (C : String) (y : MethodName) (bytes : ByteArray) (maxL : Nat) (ret : Option FieldType) (n : Nat) : Prop :=
  (Cond.methodLink own index y ∈ zA ∧ Cond.instanceMethod y ∈ zA ∧ Cond.selects C y y ∈ zA ∧ Cond.initialized y.cls ∈ zA ∧ Cond.code y bytes maxL ret ∈ zA) ∧ y.cls ≠ "java/lang/invoke/MethodHandle" ∧ y.cls ≠ "java/lang/invoke/VarHandle" ∧ (parseMethodDescriptor y.desc).map (fun d => d.parameters.length) = some n
def zLS (own : String) (index : Nat) (y : MethodName) (bytes : ByteArray) (maxL : Nat) (ret : Option FieldType) (n : Nat) : Prop :=
  (Cond.methodLink own index y ∈ zA ∧ Cond.static y ∈ zA ∧ Cond.initialized y.cls ∈ zA ∧ Cond.code y bytes maxL ret ∈ zA) ∧ y.cls ≠ "java/lang/invoke/MethodHandle" ∧ y.cls ≠ "java/lang/invoke/VarHandle" ∧ (parseMethodDescriptor y.desc).map (fun d => d.parameters.length) = some n
def zLI (own : String) (index : Nat) (y : MethodName) (bytes : ByteArray) (maxL : Nat) (n : Nat) : Prop :=
  (Cond.methodLink own index y ∈ zA ∧ Cond.instanceMethod y ∈ zA ∧ Cond.initialized y.cls ∈ zA ∧ Cond.code y bytes maxL none ∈ zA) ∧ y.name = "<init>" ∧ y.cls ≠ "java/lang/invoke/MethodHandle" ∧ y.cls ≠ "java/lang/invoke/VarHandle" ∧ (parseMethodDescriptor y.desc).map (fun d => d.parameters.length) = some n
def zLSN (own : String) (index : Nat) (y : MethodName) (host : String) (bytes : ByteArray) (maxL : Nat) (ret : Option FieldType) (n : Nat) : Prop :=
  (Cond.methodLinkNest own index y host ∈ zN ∧ Cond.static y ∈ zA ∧ Cond.initialized y.cls ∈ zA ∧ Cond.code y bytes maxL ret ∈ zA) ∧ y.cls ≠ "java/lang/invoke/MethodHandle" ∧ y.cls ≠ "java/lang/invoke/VarHandle" ∧ (parseMethodDescriptor y.desc).map (fun d => d.parameters.length) = some n
def zLIN (own : String) (index : Nat) (y : MethodName) (host : String) (bytes : ByteArray) (maxL : Nat) (n : Nat) : Prop :=
  (Cond.methodLinkNest own index y host ∈ zN ∧ Cond.instanceMethod y ∈ zA ∧ Cond.initialized y.cls ∈ zA ∧ Cond.code y bytes maxL none ∈ zA) ∧ y.name = "<init>" ∧ y.cls ≠ "java/lang/invoke/MethodHandle" ∧ y.cls ≠ "java/lang/invoke/VarHandle" ∧ (parseMethodDescriptor y.desc).map (fun d => d.parameters.length) = some n
section ZCALL
variable {p : Program} {l : Launch} {e : Env} {R : Room} {s : State} {m : MethodId} {args : Array Value} {below : List Frame} {meth : Method} {c : Code} {H : Heap} {locs : List Loc} {cells slots : Nat} {Q : State → Prop}
variable {cc : ByteArray} {nL : Nat} {own : String} {D : va_G} {k4 : Nat → ClassId} {pc : Nat} {ls : Array Slot} {rest st0 : List Value} {A : Nat → Prop} {H0 : Heap} {ws wc : va_W} {b : Nat}
variable {y : MethodName} {bytes : ByteArray} {maxL n mc ms index : Nat} {ret : Option FieldType} {rm : Room} {As : List Value} {Qv : Option Value → va_W → Prop} {C : String}
theorem zE.hts {w : Cond} (E : zE p m c cc nL s args own D k4) (h : w ∈ zT) : w.before args s = true := E.2.2.2.2.1 w h
theorem zE.fix (E : zE p m c cc nL s args own D k4) : CallFix p m c cc nL s args zT own := ⟨E.1, E.2.1, E.2.2.1, E.2.2.2.1, E.2.2.2.2.1⟩
theorem zE.good (E : zE p m c cc nL s args own D k4) (h : Cond.code y bytes maxL ret ∈ zA) : ∀ w ∈ zW y bytes maxL ret, ∀ (a' : Array Value) (U : State), s.WarmedH U.vm → w.before a' U = true := by
  intro w hw a' U hW
  rcases List.mem_cons.mp hw with rfl | hw
  · exact word_at hW (zT_good _ (zT_A h)).2 (E.w h)
  · exact word_at hW (zT_good _ hw).2 (E.hts hw)
theorem z_pre (E : zE p m c cc nL s args own D k4) (G : zG D A H0 ws H locs) (is : List Nat) (hC : is.map (fun i => ws[i]?) = wc.map some) (hn : is.Nodup) (av : List Value) :
    ∀ U : State, U.heap = H → s.WarmedH U.vm → va_Pc av (zPre D k4 wc H.size) av.toArray U := by
  intro U hU hW
  have hP : va_P D vwCl wc H := va_P.of_mem fun q hq => by
    obtain ⟨k, hk⟩ := List.getElem?_of_mem hq
    have h3 : (is.map (fun i => ws[i]?))[k]? = some (some q) := by rw [hC, List.getElem?_map, hk]; rfl
    rw [List.getElem?_map] at h3
    cases hi : is[k]? with
    | none => rw [hi] at h3; cases h3
    | some i => rw [hi] at h3; exact G.1 i q (Option.some.inj h3)
  have hD : va_D (fun _ => True) wc := by
    refine ⟨fun i j a b ha hb hab => ?_, fun _ _ _ => trivial⟩
    have look : ∀ (k : Nat) (q : Nat × va_E), wc[k]? = some q → ∃ i, is[k]? = some i ∧ ws[i]? = some q := by
      intro k q hk
      have h3 : (is.map (fun i => ws[i]?))[k]? = some (some q) := by rw [hC, List.getElem?_map, hk]; rfl
      rw [List.getElem?_map] at h3
      cases hi : is[k]? with
      | none => rw [hi] at h3; cases h3
      | some i => rw [hi] at h3; exact ⟨i, rfl, Option.some.inj h3⟩
    obtain ⟨i1, e1, f1⟩ := look i a ha
    obtain ⟨i2, e2, f2⟩ := look j b hb
    have h9 := G.2.1.1 i1 i2 a b f1 f2 hab
    subst h9
    obtain ⟨g1, e1⟩ := List.getElem?_eq_some_iff.mp e1
    obtain ⟨g2, e2⟩ := List.getElem?_eq_some_iff.mp e2
    rcases Nat.lt_trichotomy i j with g | g | g
    · exact absurd (e1.trans e2.symm) (List.pairwise_iff_getElem.mp hn i j g1 g2 g)
    · exact g
    · exact absurd (e2.trans e1.symm) (List.pairwise_iff_getElem.mp hn j i g2 g1 g)
  exact ⟨rfl, by rw [hU], by rw [hU]; exact hP, E.2.2.2.2.2.moved hW, hD⟩
theorem z_after {mc ms : Nat} {av : Array Value} (G : zG D A H0 ws H locs) (is : List Nat) (hC : is.map (fun i => ws[i]?) = wc.map some) (hn : is.Nodup)
    (hr : va_Run p l e R s m args below meth c H locs cells slots mc ms (F0 m pc ls st0) rest (zQ D wc (va_A wc H.size) Qv av) (va_A wc H.size))
    (kk : ∀ (v : Option Value) (w : va_W) (H1 : Heap) (locs1 : List Loc), Qv v w → zG D A H0 (zput is ws w) H1 locs1 → W p l e R s m args below meth c H1 locs1 (cells + mc) (slots + ms) Q (F0 m (pc + 3) ls (v.toList ++ rest))) :
    W p l e R s m args below meth c H locs cells slots Q (F0 m pc ls st0) := by
  have hF : ∀ q, va_A wc H.size q → A q := va_free (wc := wc) G.2.1 G.2.2.1 G.2.2.2 is hC
  intro T hT X
  obtain ⟨v, st₀, t, T', L, h0, X', hL, e1, e2, ⟨⟨v9, w, hv, hq, hP1, hD1, x, hx⟩, hz, hk⟩, st⟩ := hr T hT X
  cases hv
  rw [h0] at hz hk
  rw [← e1] at hP1
  obtain ⟨j1, j2⟩ := zput_join G.1 G.2.1 hC hn (H1 := T'.heap) (fun q h1 h2 => by rw [e1]; exact hk q h1 h2) hF hP1 hD1 hx
  obtain ⟨t2, a1, b1⟩ := kk v w T'.heap (locs ++ L) hq ⟨j1, j2,
    ⟨Nat.le_trans G.2.2.1.1 (by rw [e1]; exact hz), fun q h1 h2 => by rw [e1, hk q (Nat.lt_of_lt_of_le h1 G.2.2.1.1) (fun z => h2 (hF q z))]; exact G.2.2.1.2.1 q h1 h2, fun q hq => by
      rcases List.mem_append.mp hq with h | h
      · exact G.2.2.1.2.2 q h
      · exact hF _ (hL q h)⟩, G.2.2.2⟩ T' rfl X'
  exact ⟨t2, st t2 a1, b1⟩
theorem z_callV (E : zE p m c cc nL s args own D k4) (G : zG D A H0 ws H locs) (hls : ls.size = nL) (hC : zC l y (zW y bytes maxL ret) rm D k4 (.ref b :: As) wc mc ms Qv) (hL : zLV own index C y bytes maxL ret n)
    (hrm : rm.cells = mc ∧ rm.slots = ms ∧ rm.frames + 1 ≤ R.frames ∧ 8 + (maxL + 11) + rm.locals ≤ R.locals) (is : List Nat) (hi : is.map (fun i => ws[i]?) = wc.map some) (hnd : is.Nodup)
    (q0 ci : Nat) {cq : vw_C} {fs : List Value} (hcl : vwCl[ci]? = some cq) (hcC : cq.1 = C) (he : ws[q0]? = some (b, .inr (ci, fs))) (hn : As.length = n) (hst : st0 = As.reverse ++ .ref b :: rest) (hW : (rest.map fun v => v.category).sum ≤ 8) (hdg : decode cc pc = .ok (.invokevirtual index, 3)) (hf : cells + mc ≤ R.cells ∧ slots + ms ≤ R.slots)
    (kk : ∀ (v : Option Value) (w : va_W) (H1 : Heap) (locs1 : List Loc), Qv v w → zG D A H0 (zput is ws w) H1 locs1 → W p l e R s m args below meth c H1 locs1 (cells + mc) (slots + ms) Q (F0 m (pc + 3) ls (v.toList ++ rest))) :
    W p l e R s m args below meth c H locs cells slots Q (F0 m pc ls st0) := by
  obtain ⟨⟨w1, w2, w3, w4, w5⟩, d1, d2, d3⟩ := hL
  have hrecv := va_recv E.2.2.2.2.2.1 G.1 hcl he
  rw [hcC] at hrecv
  exact z_after G is hi hnd (va_runV E.fix (hC H.size) ⟨⟨hrm.1, hrm.2.1, hrm.2.2.1, hrm.2.2.2, E.good w5, List.mem_cons_self, E.w w5, E.w w4, ⟨d1, d2⟩, fun sig h => by rw [h] at d3; exact (Option.some.inj d3).symm, E.w w1⟩, E.w w2, E.w w3⟩
    ⟨zPre_blind, hrecv, z_pre E G is hi hnd (.ref b :: As)⟩ rfl hn hls hst (lv_room hW) hdg hf) kk
theorem z_callS (E : zE p m c cc nL s args own D k4) (G : zG D A H0 ws H locs) (hls : ls.size = nL) (hC : zC l y (zW y bytes maxL ret) rm D k4 As wc mc ms Qv) (hL : zLS own index y bytes maxL ret n)
    (hrm : rm.cells = mc ∧ rm.slots = ms ∧ rm.frames + 1 ≤ R.frames ∧ 8 + (maxL + 11) + rm.locals ≤ R.locals) (is : List Nat) (hi : is.map (fun i => ws[i]?) = wc.map some) (hnd : is.Nodup)
    (hn : As.length = n) (hst : st0 = As.reverse ++ rest) (hW : (rest.map fun v => v.category).sum ≤ 8) (hdg : decode cc pc = .ok (.invokestatic index, 3)) (hf : cells + mc ≤ R.cells ∧ slots + ms ≤ R.slots)
    (kk : ∀ (v : Option Value) (w : va_W) (H1 : Heap) (locs1 : List Loc), Qv v w → zG D A H0 (zput is ws w) H1 locs1 → W p l e R s m args below meth c H1 locs1 (cells + mc) (slots + ms) Q (F0 m (pc + 3) ls (v.toList ++ rest))) :
    W p l e R s m args below meth c H locs cells slots Q (F0 m pc ls st0) := by
  obtain ⟨⟨w1, w2, w4, w5⟩, d1, d2, d3⟩ := hL
  exact z_after G is hi hnd (va_runS E.fix (hC H.size) ⟨⟨hrm.1, hrm.2.1, hrm.2.2.1, hrm.2.2.2, E.good w5, List.mem_cons_self, E.w w5, E.w w4, ⟨d1, d2⟩, fun sig h => by rw [h] at d3; exact (Option.some.inj d3).symm, E.w w1⟩, E.w w2⟩
    ⟨zPre_blind, z_pre E G is hi hnd As⟩ rfl hn hls hst (lv_room hW) hdg hf) kk
theorem z_callI (E : zE p m c cc nL s args own D k4) (G : zG D A H0 ws H locs) (hls : ls.size = nL) (hC : zC l y (zW y bytes maxL none) rm D k4 (.ref b :: As) wc mc ms Qv) (hL : zLI own index y bytes maxL n)
    (hrm : rm.cells = mc ∧ rm.slots = ms ∧ rm.frames + 1 ≤ R.frames ∧ 8 + (maxL + 11) + rm.locals ≤ R.locals) (is : List Nat) (hi : is.map (fun i => ws[i]?) = wc.map some) (hnd : is.Nodup)
    (hn : As.length = n) (hst : st0 = As.reverse ++ .ref b :: rest) (hW : (rest.map fun v => v.category).sum ≤ 8) (hdg : decode cc pc = .ok (.invokespecial index, 3)) (hf : cells + mc ≤ R.cells ∧ slots + ms ≤ R.slots)
    (kk : ∀ (v : Option Value) (w : va_W) (H1 : Heap) (locs1 : List Loc), Qv v w → zG D A H0 (zput is ws w) H1 locs1 → W p l e R s m args below meth c H1 locs1 (cells + mc) (slots + ms) Q (F0 m (pc + 3) ls (v.toList ++ rest))) :
    W p l e R s m args below meth c H locs cells slots Q (F0 m pc ls st0) := by
  obtain ⟨⟨w1, w2, w4, w5⟩, d0, d1, d2, d3⟩ := hL
  exact z_after G is hi hnd (va_runI E.fix (hC H.size) ⟨⟨hrm.1, hrm.2.1, hrm.2.2.1, hrm.2.2.2, E.good w5, List.mem_cons_self, E.w w5, E.w w4, ⟨d1, d2⟩, fun sig h => by rw [h] at d3; exact (Option.some.inj d3).symm, E.w w1⟩, d0, E.w w2⟩
    ⟨zPre_blind, z_pre E G is hi hnd (.ref b :: As)⟩ rfl hn hls hst (lv_room hW) hdg hf) kk
theorem z_callSN {host : String} (E : zE p m c cc nL s args own D k4) (G : zG D A H0 ws H locs) (hls : ls.size = nL) (hC : zC l y (zW y bytes maxL ret) rm D k4 As wc mc ms Qv) (hL : zLSN own index y host bytes maxL ret n)
    (hrm : rm.cells = mc ∧ rm.slots = ms ∧ rm.frames + 1 ≤ R.frames ∧ 8 + (maxL + 11) + rm.locals ≤ R.locals) (is : List Nat) (hi : is.map (fun i => ws[i]?) = wc.map some) (hnd : is.Nodup)
    (hn : As.length = n) (hst : st0 = As.reverse ++ rest) (hW : (rest.map fun v => v.category).sum ≤ 8) (hdg : decode cc pc = .ok (.invokestatic index, 3)) (hf : cells + mc ≤ R.cells ∧ slots + ms ≤ R.slots)
    (kk : ∀ (v : Option Value) (w : va_W) (H1 : Heap) (locs1 : List Loc), Qv v w → zG D A H0 (zput is ws w) H1 locs1 → W p l e R s m args below meth c H1 locs1 (cells + mc) (slots + ms) Q (F0 m (pc + 3) ls (v.toList ++ rest))) :
    W p l e R s m args below meth c H locs cells slots Q (F0 m pc ls st0) := by
  obtain ⟨⟨w1, w2, w4, w5⟩, d1, d2, d3⟩ := hL
  exact z_after G is hi hnd (va_runSN E.fix (hC H.size) ⟨⟨⟨hrm.1, hrm.2.1, hrm.2.2.1, hrm.2.2.2, E.good w5, List.mem_cons_self⟩, E.w w5, E.w w4, ⟨d1, d2⟩, fun sig h => by rw [h] at d3; exact (Option.some.inj d3).symm, va_Nw.use rfl (E.nest w1)⟩, E.w w2, trivial⟩
    ⟨zPre_blind, z_pre E G is hi hnd As⟩ rfl hn hls hst (lv_room hW) hdg hf) kk
theorem z_callIN {host : String} (E : zE p m c cc nL s args own D k4) (G : zG D A H0 ws H locs) (hls : ls.size = nL) (hC : zC l y (zW y bytes maxL none) rm D k4 (.ref b :: As) wc mc ms Qv) (hL : zLIN own index y host bytes maxL n)
    (hrm : rm.cells = mc ∧ rm.slots = ms ∧ rm.frames + 1 ≤ R.frames ∧ 8 + (maxL + 11) + rm.locals ≤ R.locals) (is : List Nat) (hi : is.map (fun i => ws[i]?) = wc.map some) (hnd : is.Nodup)
    (hn : As.length = n) (hst : st0 = As.reverse ++ .ref b :: rest) (hW : (rest.map fun v => v.category).sum ≤ 8) (hdg : decode cc pc = .ok (.invokespecial index, 3)) (hf : cells + mc ≤ R.cells ∧ slots + ms ≤ R.slots)
    (kk : ∀ (v : Option Value) (w : va_W) (H1 : Heap) (locs1 : List Loc), Qv v w → zG D A H0 (zput is ws w) H1 locs1 → W p l e R s m args below meth c H1 locs1 (cells + mc) (slots + ms) Q (F0 m (pc + 3) ls (v.toList ++ rest))) :
    W p l e R s m args below meth c H locs cells slots Q (F0 m pc ls st0) := by
  obtain ⟨⟨w1, w2, w4, w5⟩, d0, d1, d2, d3⟩ := hL
  exact z_after G is hi hnd (va_runIN E.fix (hC H.size) ⟨⟨⟨hrm.1, hrm.2.1, hrm.2.2.1, hrm.2.2.2, E.good w5, List.mem_cons_self⟩, E.w w5, E.w w4, ⟨d1, d2⟩, fun sig h => by rw [h] at d3; exact (Option.some.inj d3).symm, va_Nw.use rfl (E.nest w1)⟩, d0, E.w w2⟩
    ⟨zPre_blind, z_pre E G is hi hnd (.ref b :: As)⟩ rfl hn hls hst (lv_room hW) hdg hf) kk
end ZCALL
