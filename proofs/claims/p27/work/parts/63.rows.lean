/-! the ratio's two checks in the law -/
theorem dx_dec {a b : Int} (hb : 0 ≤ b ∧ b ≤ a) (ha : a < 2147483648) {r : UInt64} (h : DX a b r) : ∃ (n : Nat) (q : Int), FP.Core.decode FP.Core.b64 r.toNat = .fin false n q ∧ (n = 0 ∨ (q ≤ -52 ∧ n ≤ 2 ^ (-q).toNat)) := by
  rcases h with ⟨_, e⟩ | ⟨h0, e⟩
  · subst e
    exact ⟨2 ^ 52, -52, FP.Core.val64_dconst1, Or.inr ⟨by decide, by decide⟩⟩
  · obtain ⟨n, q, d, k⟩ := fp_div (c := a - b) (a := a) (by omega) (by omega) (by omega) ha
    rcases alike_or e with e | ⟨_, e⟩
    · rw [e]; exact ⟨n, q, d, k⟩
    · rw [nan_dec e] at d
      cases d
theorem dx_lo {a b : Int} (hb : 0 ≤ b ∧ b ≤ a) (ha : a < 2147483648) {r : UInt64} (h : DX a b r) : ¬ Op.cmpValue (FP.dcmp r FP.dconst0) .g < 0 := by
  obtain ⟨n, q, d, k⟩ := dx_dec hb ha h
  have e : FP.dcmp r FP.dconst0 = FP.Core.order (.fin false n q) (.fin false 0 FP.Core.b64.qmin) := by
    show FP.Core.order (FP.Core.decode FP.Core.b64 r.toNat) (FP.Core.val64 FP.Core.dconst0) = _
    rw [d, FP.Core.val64_dconst0]
  have h0 := fp_order0 (n := n) (q := q) (r := FP.Core.b64.qmin)
  rw [← e] at h0
  cases h9 : FP.dcmp r FP.dconst0 with
  | none => decide
  | some o =>
    cases o with
    | lt => exact absurd h9 h0
    | eq => decide
    | gt => decide
theorem dx_hi {a b : Int} (hb : 0 ≤ b ∧ b ≤ a) (ha : a < 2147483648) {r : UInt64} (h : DX a b r) : Op.cmpValue (FP.dcmp r FP.dconst1) .l ≤ 0 := by
  obtain ⟨n, q, d, k⟩ := dx_dec hb ha h
  have e : FP.dcmp r FP.dconst1 = FP.Core.order (.fin false n q) (.fin false (2 ^ 52) (-52)) := by
    show FP.Core.order (FP.Core.decode FP.Core.b64 r.toNat) (FP.Core.val64 FP.Core.dconst1) = _
    rw [d, FP.Core.val64_dconst1]
  have h0 := fp_order k
  rw [← e] at h0
  cases h9 : FP.dcmp r FP.dconst1 with
  | none => decide
  | some o =>
    cases o with
    | lt => decide
    | eq => decide
    | gt => exact absurd h9 h0
/-! numbers of which only the bounds count -/
theorem and_max (x : Int32) : ∃ z : Int, 0 ≤ z ∧ z < 2147483648 ∧ x &&& iI 2147483647 = iI z := by
  refine ⟨(((x &&& iI 2147483647).toBitVec.toNat : Nat) : Int), by omega, ?_, ?_⟩
  · rw [Int32.toBitVec_and, BitVec.toNat_and]
    have h : (iI 2147483647).toBitVec.toNat = 2147483647 := by decide
    rw [h]
    have := Nat.and_le_right (n := x.toBitVec.toNat) (m := 2147483647)
    omega
  · apply Int32.toBitVec_inj.mp
    show _ = BitVec.ofInt 32 _
    rw [BitVec.ofInt_natCast, BitVec.ofNat_toNat, BitVec.setWidth_eq]
theorem iI_len (L : Nat) : Int32.ofNat L = iI ((L : Nat) : Int) := by
  apply Int32.toBitVec_inj.mp
  show BitVec.ofNat 32 L = BitVec.ofInt 32 _
  rw [BitVec.ofInt_natCast]
section ZLW
variable {p : Program} {l : Launch} {e : Env} {R : Room} {s : State} {m : MethodId} {args : Array Value} {below : List Frame} {meth : Method} {c : Code} {H : Heap} {locs : List Loc} {cells slots : Nat} {Q : State → Prop}
variable {cc : ByteArray} {nL : Nat} {own : String} {D : va_G} {k4 : Nat → ClassId} {pc : Nat} {ls : Array Slot} {rest st0 : List Value} {A : Nat → Prop} {ws wc : va_W} {b L : Nat} {xs : Nat → Int32}
variable {y : MethodName} {bytes : ByteArray} {maxL n mc ms index : Nat} {ret : Option FieldType} {rm : Room} {As : List Value} {Qv : Option Value → va_W → Prop}
theorem z_ixor (E : zE p m c cc nL s args own D k4) {x y : Int} (hdg : decode cc pc = .ok (.ixor, 1))
    (kk : ∀ z : Int, rng z → W p l e R s m args below meth c H locs cells slots Q (F0 m (pc + 1) ls (.int (iI z) :: rest))) : W p l e R s m args below meth c H locs cells slots Q (F0 m pc ls (.int (iI y) :: .int (iI x) :: rest)) :=
  lv_ixor E.1 E.2.1 hdg (by rw [iI_of (iI x ^^^ iI y)]; exact kk _ (iI_rng _))
theorem z_ishr (E : zE p m c cc nL s args own D k4) {x y : Int} (hdg : decode cc pc = .ok (.ishr, 1))
    (kk : ∀ z : Int, rng z → W p l e R s m args below meth c H locs cells slots Q (F0 m (pc + 1) ls (.int (iI z) :: rest))) : W p l e R s m args below meth c H locs cells slots Q (F0 m pc ls (.int (iI y) :: .int (iI x) :: rest)) :=
  lv_ishr E.1 E.2.1 hdg (by rw [iI_of (iI x >>> (iI y &&& 31))]; exact kk _ (iI_rng _))
theorem z_iandM (E : zE p m c cc nL s args own D k4) {x : Int} (hdg : decode cc pc = .ok (.iand, 1))
    (kk : ∀ z : Int, 0 ≤ z → z < 2147483648 → W p l e R s m args below meth c H locs cells slots Q (F0 m (pc + 1) ls (.int (iI z) :: rest))) : W p l e R s m args below meth c H locs cells slots Q (F0 m pc ls (.int (iI 2147483647) :: .int (iI x) :: rest)) := by
  obtain ⟨z, h0, h1, h2⟩ := and_max (iI x)
  exact lv_iand E.1 E.2.1 hdg (by rw [h2]; exact kk z h0 h1)
/-- a number, whatever it is, gets a name -/
theorem z_any {x : Int} (kk : ∀ z : Int, rng z → W p l e R s m args below meth c H locs cells slots Q (F0 m pc ls (.int (iI z) :: rest))) : W p l e R s m args below meth c H locs cells slots Q (F0 m pc ls (.int (iI x) :: rest)) := by
  rw [iI_of (iI x)]
  exact kk _ (iI_rng _)
/-! contracts of methods that read the script -/
def zPreS (D : va_G) (k4 : Nat → ClassId) (ws : va_W) (sz b L : Nat) (xs : Nat → Int32) (U : State) : Prop := zPre D k4 ws sz U ∧ va_X b L xs U U.heap ∧ b < sz ∧ ¬ va_A ws sz b
def zCs (l : Launch) (y : MethodName) (wds : List Cond) (rm : Room) (D : va_G) (k4 : Nat → ClassId) (av : List Value) (ws : va_W) (mc ms b L : Nat) (xs : Nat → Int32) (Qv : Option Value → va_W → Prop) : Prop :=
  ∀ sz : Nat, Met l y wds rm (va_Pc av (zPreS D k4 ws sz b L xs)) (zQ D ws (va_A ws sz) Qv) mc ms (va_A ws sz)
theorem zPreS_blind {sz : Nat} {av : List Value} : FrameBlind (va_Pc av (zPreS D k4 ws sz b L xs)) := by
  intro a U g mk q
  obtain ⟨q0, ⟨q1, q2, q3, q4⟩, q5, q6⟩ := q
  exact ⟨q0, ⟨q1, q2, zK.same (s := U) (U := U.calling g mk a) rfl q3, q4⟩, va_X.moved (u := U) (U := U.calling g mk a) (H := U.heap) (Vm.Alike.refl U.vm) q5, q6⟩
theorem zCs_of {av : List Value} (hL : L ≤ 2560) (hy : plainName y.cls = true) (hav : (lg_sl av).length ≤ maxL)
    (body : ∀ (p : Program) (e : Env) (s : State) (m : MethodId) (below : List Frame) (meth : Method) (c : Code) (A : Nat → Prop) (H : Heap) (locs : List Loc) (ls : Array Slot), zE p m c cc maxL s av.toArray y.cls D k4 → meth.sig.returnType = ret → meth.locks = false → zSc b L xs s A →
      zG D A s.heap ws H locs → lv_has ls maxL (lv_args 0 av) →
      W p l e rm s m av.toArray below meth c H locs 0 0 (MQ below (zQ D ws A Qv) av.toArray s mc ms A) (F0 m 0 ls [])) : zCs l y (zW y cc maxL ret) rm D k4 av ws mc ms b L xs Qv := by
  intro sz
  refine Met.ofW (cc := cc) (maxL := maxL) (ret := ret) hy rfl ?_
  intro p e s m args below meth c s₁ B hml hv
  obtain ⟨rfl, ⟨hsz, hP, hK, hD0⟩, hX, hb, hA⟩ := hv
  subst hsz
  have hts := atoms_spec (ws := zW y cc maxL ret) B.pre
  have hD := hD0.self (sz := s.heap.size)
  have hl := lv_entry av (n := maxL) hav
  rw [lg_entry_eq]
  exact body p e s m below meth c (va_A ws s.heap.size) s.heap [] _ ⟨B.exec, B.bytes, hml, findClass_of_methodNamed B.named, fun w h => hts w (List.mem_cons_of_mem _ h), hK⟩ B.returns B.notSynchronized ⟨hX, hb, hA, hL⟩ ⟨hP, hD, va_S.rf, fun q h => Or.inr h⟩ hl
theorem z_preS (E : zE p m c cc nL s args own D k4) (S9 : zSc b L xs s A) (G : zG D A s.heap ws H locs) (is : List Nat) (hC : is.map (fun i => ws[i]?) = wc.map some) (hn : is.Nodup) (av : List Value) :
    ∀ U : State, U.heap = H → s.WarmedH U.vm → va_Pc av (zPreS D k4 wc H.size b L xs) av.toArray U := by
  intro U hU hW
  obtain ⟨-, h1⟩ := z_pre E G is hC hn av U hU hW
  have hF : ∀ q, va_A wc H.size q → A q := va_free (wc := wc) G.2.1 G.2.2.1 G.2.2.2 is hC
  refine ⟨rfl, h1, ?_, Nat.lt_of_lt_of_le S9.2.1 G.2.2.1.1, fun h => S9.2.2.1 (hF b h)⟩
  rw [hU]
  exact va_X.moved hW.alike (S9.1.kept (G.2.2.1.2.1 b S9.2.1 S9.2.2.1))
theorem z_callSs (E : zE p m c cc nL s args own D k4) (S9 : zSc b L xs s A) (G : zG D A s.heap ws H locs) (hls : ls.size = nL) (hC : zCs l y (zW y bytes maxL ret) rm D k4 As wc mc ms b L xs Qv) (hL : zLS own index y bytes maxL ret n)
    (hrm : rm.cells = mc ∧ rm.slots = ms ∧ rm.frames + 1 ≤ R.frames ∧ 8 + (maxL + 11) + rm.locals ≤ R.locals) (is : List Nat) (hi : is.map (fun i => ws[i]?) = wc.map some) (hnd : is.Nodup)
    (hn : As.length = n) (hst : st0 = As.reverse ++ rest) (hW : (rest.map fun v => v.category).sum ≤ 8) (hdg : decode cc pc = .ok (.invokestatic index, 3)) (hf : cells + mc ≤ R.cells ∧ slots + ms ≤ R.slots)
    (kk : ∀ (v : Option Value) (w : va_W) (H1 : Heap) (locs1 : List Loc), Qv v w → zG D A s.heap (zput is ws w) H1 locs1 → W p l e R s m args below meth c H1 locs1 (cells + mc) (slots + ms) Q (F0 m (pc + 3) ls (v.toList ++ rest))) :
    W p l e R s m args below meth c H locs cells slots Q (F0 m pc ls st0) := by
  obtain ⟨⟨w1, w2, w4, w5⟩, d1, d2, d3⟩ := hL
  exact z_after G is hi hnd (va_runS E.fix (hC H.size) ⟨⟨hrm.1, hrm.2.1, hrm.2.2.1, hrm.2.2.2, E.good w5, List.mem_cons_self, E.w w5, E.w w4, ⟨d1, d2⟩, fun sig h => by rw [h] at d3; exact (Option.some.inj d3).symm, E.w w1⟩, E.w w2⟩
    ⟨zPreS_blind, z_preS E S9 G is hi hnd As⟩ rfl hn hls hst (lv_room hW) hdg hf) kk
/-- the same, where the callee's world stands at the end -/
theorem z_callSsx {pre : va_W} (E : zE p m c cc nL s args own D k4) (S9 : zSc b L xs s A) (G : zG D A s.heap (pre ++ wc) H locs) (hls : ls.size = nL) (hC : zCs l y (zW y bytes maxL ret) rm D k4 As wc mc ms b L xs Qv) (hL : zLS own index y bytes maxL ret n)
    (hrm : rm.cells = mc ∧ rm.slots = ms ∧ rm.frames + 1 ≤ R.frames ∧ 8 + (maxL + 11) + rm.locals ≤ R.locals)
    (hn : As.length = n) (hst : st0 = As.reverse ++ rest) (hW : (rest.map fun v => v.category).sum ≤ 8) (hdg : decode cc pc = .ok (.invokestatic index, 3)) (hf : cells + mc ≤ R.cells ∧ slots + ms ≤ R.slots)
    (kk : ∀ (v : Option Value) (w : va_W) (H1 : Heap) (locs1 : List Loc), Qv v w → zG D A s.heap (pre ++ w) H1 locs1 → W p l e R s m args below meth c H1 locs1 (cells + mc) (slots + ms) Q (F0 m (pc + 3) ls (v.toList ++ rest))) :
    W p l e R s m args below meth c H locs cells slots Q (F0 m pc ls st0) := by
  obtain ⟨⟨w1, w2, w4, w5⟩, d1, d2, d3⟩ := hL
  exact z_afterS G (va_runS E.fix (hC H.size) ⟨⟨hrm.1, hrm.2.1, hrm.2.2.1, hrm.2.2.2, E.good w5, List.mem_cons_self, E.w w5, E.w w4, ⟨d1, d2⟩, fun sig h => by rw [h] at d3; exact (Option.some.inj d3).symm, E.w w1⟩, E.w w2⟩
    ⟨zPreS_blind, z_preS E S9 G (List.range' pre.length wc.length) (suf_map wc pre) List.nodup_range' As⟩ rfl hn hls hst (lv_room hW) hdg hf) kk
/-- a static method without the script, its world at the end -/
theorem z_callSx {pre : va_W} {H0 : Heap} (E : zE p m c cc nL s args own D k4) (G : zG D A H0 (pre ++ wc) H locs) (hls : ls.size = nL) (hC : zC l y (zW y bytes maxL ret) rm D k4 As wc mc ms Qv) (hL : zLS own index y bytes maxL ret n)
    (hrm : rm.cells = mc ∧ rm.slots = ms ∧ rm.frames + 1 ≤ R.frames ∧ 8 + (maxL + 11) + rm.locals ≤ R.locals)
    (hn : As.length = n) (hst : st0 = As.reverse ++ rest) (hW : (rest.map fun v => v.category).sum ≤ 8) (hdg : decode cc pc = .ok (.invokestatic index, 3)) (hf : cells + mc ≤ R.cells ∧ slots + ms ≤ R.slots)
    (kk : ∀ (v : Option Value) (w : va_W) (H1 : Heap) (locs1 : List Loc), Qv v w → zG D A H0 (pre ++ w) H1 locs1 → W p l e R s m args below meth c H1 locs1 (cells + mc) (slots + ms) Q (F0 m (pc + 3) ls (v.toList ++ rest))) :
    W p l e R s m args below meth c H locs cells slots Q (F0 m pc ls st0) := by
  obtain ⟨⟨w1, w2, w4, w5⟩, d1, d2, d3⟩ := hL
  exact z_afterS G (va_runS E.fix (hC H.size) ⟨⟨hrm.1, hrm.2.1, hrm.2.2.1, hrm.2.2.2, E.good w5, List.mem_cons_self, E.w w5, E.w w4, ⟨d1, d2⟩, fun sig h => by rw [h] at d3; exact (Option.some.inj d3).symm, E.w w1⟩, E.w w2⟩
    ⟨zPre_blind, z_pre E G (List.range' pre.length wc.length) (suf_map wc pre) List.nodup_range' As⟩ rfl hn hls hst (lv_room hW) hdg hf) kk
/-- the new cell comes to the front -/
theorem zG.front {H0 : Heap} {q : Nat × va_E} (G : zG D A H0 (ws ++ [q]) H locs) : zG D A H0 (q :: ws) H locs := G.perm List.perm_append_comm
/-- the first cell is let go -/
theorem zG.tail {H0 : Heap} {q : Nat × va_E} (G : zG D A H0 (q :: ws) H locs) : zG D A H0 ws H locs :=
  ⟨va_P.of_mem fun r hr => G.1.mem (List.mem_cons_of_mem _ hr), va_D.of_nodup (List.nodup_cons.mp G.2.1.nodup).2 fun r hr => G.2.1.memA (List.mem_cons_of_mem _ hr), G.2.2.1, G.2.2.2⟩
end ZLW
