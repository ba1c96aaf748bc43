/-! doubles: the ratio of two whole numbers, or any NaN where that is one -/
def DX (a b : Int) (r : UInt64) : Prop := (a = 0 ∧ r = Jvm.FP.dconst1) ∨ (a ≠ 0 ∧ alike64 r (Jvm.FP.ddiv (Jvm.FP.i2d (iI (a - b))) (Jvm.FP.i2d (iI a))) = true)
theorem nan_dec {r : UInt64} (h : isNaN64 r = true) : Jvm.FP.Core.decode Jvm.FP.Core.b64 r.toNat = Jvm.FP.Core.Datum.nan := by
  rw [isNaN64_iff] at h
  have h1 : r.toNat &&& 0x7fffffffffffffff = r.toNat % 2 ^ 63 := Nat.and_two_pow_sub_one_eq_mod _ 63
  rw [h1] at h
  have hE : Jvm.FP.Core.fieldE Jvm.FP.Core.b64 r.toNat = Jvm.FP.Core.b64.exps - 1 := by
    show r.toNat / 2 ^ 52 % 2 ^ 11 = 2 ^ 11 - 1
    omega
  have hT : ¬ Jvm.FP.Core.fieldT Jvm.FP.Core.b64 r.toNat = 0 := by
    show ¬ r.toNat % 2 ^ 52 = 0
    omega
  unfold Jvm.FP.Core.decode
  rw [if_pos hE, if_neg hT]
theorem nan_cmp {r : UInt64} (h : isNaN64 r = true) (x : UInt64) : Jvm.FP.dcmp r x = none := by
  show Jvm.FP.Core.order (Jvm.FP.Core.decode Jvm.FP.Core.b64 r.toNat) _ = none
  rw [nan_dec h]
  rfl
theorem nan_ne {r : UInt64} (h : isNaN64 r = true) (x : UInt64) (op : CmpOp) : Op.cmpValue (Jvm.FP.dcmp r x) op ≠ 0 := by
  rw [nan_cmp h]
  cases op <;> decide
theorem alike_or {r v : UInt64} (h : alike64 r v = true) : r = v ∨ (isNaN64 r = true ∧ isNaN64 v = true) := by
  unfold alike64 at h
  rcases Bool.or_eq_true _ _ ▸ h with h | h
  · exact Or.inl (of_decide_eq_true h)
  · exact Or.inr ((Bool.and_eq_true _ _).mp h)
/-- two answers of one ratio differ only where both are NaN -/
theorem DX_cmp {a b : Int} {r1 r2 : UInt64} (h1 : DX a b r1) (h2 : DX a b r2) {op : CmpOp} (h : Op.cmpValue (Jvm.FP.dcmp r1 r2) op ≠ 0) : Op.cmpValue (Jvm.FP.dcmp r1 r1) op ≠ 0 ∧ Op.cmpValue (Jvm.FP.dcmp r2 r2) op ≠ 0 := by
  by_cases he : r1 = r2
  · rw [he] at h ⊢; exact ⟨h, h⟩
  · have hn : isNaN64 r1 = true ∧ isNaN64 r2 = true := by
      rcases h1 with ⟨a1, e1⟩ | ⟨a1, e1⟩
      · rcases h2 with ⟨a2, e2⟩ | ⟨a2, e2⟩
        · exact absurd (e1.trans e2.symm) he
        · exact absurd a1 a2
      · rcases h2 with ⟨a2, e2⟩ | ⟨a2, e2⟩
        · exact absurd a2 a1
        · rcases alike_or e1 with f1 | f1
          · rcases alike_or e2 with f2 | f2
            · exact absurd (f1.trans f2.symm) he
            · exact ⟨by rw [f1]; exact f2.2, f2.1⟩
          · rcases alike_or e2 with f2 | f2
            · exact ⟨f1.1, by rw [f2]; exact f1.2⟩
            · exact ⟨f1.1, f2.1⟩
    exact ⟨nan_ne hn.1 _ _, nan_ne hn.2 _ _⟩
/-- the contract of a method that may draw -/
def zCD (l : Launch) (y : MethodName) (wds : List Cond) (rm : Room) (D : va_G) (k4 : Nat → ClassId) (av : List Value) (ws : va_W) (mc ms : Nat) (Qv : Option Value → va_W → Prop) : Prop :=
  ∀ sz : Nat, MetD lw_cs l y wds rm (va_Pc av (zPre D k4 ws sz)) (zQ D ws (va_A ws sz) Qv) mc ms (va_A ws sz)
section ZDR
variable {p : Program} {l : Launch} {e : Env} {R : Room} {s : State} {m : MethodId} {args : Array Value} {below : List Frame} {meth : Method} {c : Code} {H : Heap} {locs : List Loc} {cells slots : Nat} {Q : State → Prop}
variable {cc : ByteArray} {nL : Nat} {own : String} {D : va_G} {k4 : Nat → ClassId} {pc : Nat} {ls : Array Slot} {rest st0 : List Value} {A : Nat → Prop} {H0 : Heap} {ws wc : va_W} {a b : Nat}
theorem zE.redraw (E : zE p m c cc nL s args own D k4) (d : Drawn) : zE p m c cc nL (s.setDrawn d) args own D k4 :=
  ⟨E.1, E.2.1, E.2.2.1, E.2.2.2.1, dr_words E.2.2.2.2.1 d, zK.same (s := s) (U := s.setDrawn d) rfl E.2.2.2.2.2⟩
theorem zCD_of {y : MethodName} {maxL : Nat} {ret : Option FieldType} {rm : Room} {av : List Value} {mc ms : Nat} {Qv : Option Value → va_W → Prop} (hy : plainName y.cls = true) (hav : (lg_sl av).length ≤ maxL)
    (body : ∀ (p : Program) (e : Env) (s : State) (m : MethodId) (below : List Frame) (meth : Method) (c : Code) (A : Nat → Prop) (H : Heap) (locs : List Loc) (ls : Array Slot), zE p m c cc maxL (s.setDrawn s.drawn) av.toArray y.cls D k4 → meth.sig.returnType = ret → meth.locks = false →
      zG D A s.heap ws H locs → lv_has ls maxL (lv_args 0 av) →
      W p l e rm (s.setDrawn s.drawn) m av.toArray below meth c H locs 0 0 (MQD lw_cs below (zQ D ws A Qv) av.toArray s mc ms A) (F0 m 0 ls [])) : zCD l y (zW y cc maxL ret) rm D k4 av ws mc ms Qv := by
  intro sz
  refine MetD.ofW (cc := cc) (maxL := maxL) (ret := ret) hy rfl ?_
  intro p e s m args below meth c s₁ B hml hv _
  obtain ⟨rfl, hsz, hP, hK, hD0⟩ := hv
  subst hsz
  have hts := atoms_spec (ws := zW y cc maxL ret) B.pre
  have hD := hD0.self (sz := s.heap.size)
  have hl := lv_entry av (n := maxL) hav
  rw [lg_entry_eq]
  have E0 : zE p m c cc maxL s av.toArray y.cls D k4 := ⟨B.exec, B.bytes, hml, findClass_of_methodNamed B.named, fun w h => hts w (List.mem_cons_of_mem _ h), hK⟩
  exact body p e s m below meth c (va_A ws s.heap.size) s.heap [] _ (E0.redraw s.drawn) B.returns B.notSynchronized ⟨hP, hD, va_S.rf, fun q h => Or.inr h⟩ hl
theorem z_dconst1 (E : zE p m c cc nL s args own D k4) (hdg : decode cc pc = .ok (.dconst 1, 1))
    (kk : W p l e R s m args below meth c H locs cells slots Q (F0 m (pc + 1) ls (.double Jvm.FP.dconst1 :: rest))) : W p l e R s m args below meth c H locs cells slots Q (F0 m pc ls rest) := lv_dconst1 E.1 E.2.1 hdg kk
theorem z_i2d (E : zE p m c cc nL s args own D k4) {x : Int} (hdg : decode cc pc = .ok (.i2d, 1))
    (kk : W p l e R s m args below meth c H locs cells slots Q (F0 m (pc + 1) ls (.double (Jvm.FP.i2d (iI x)) :: rest))) : W p l e R s m args below meth c H locs cells slots Q (F0 m pc ls (.int (iI x) :: rest)) := lv_i2d E.1 E.2.1 hdg kk
theorem z_dret {w0 w' : va_W} {v : UInt64} {Qv : Option Value → va_W → Prop} {mc ms : Nat} (E : zE p m c cc nL s args own D k4) (hr : meth.sig.returnType = some .double) (hlocks : meth.locks = false) (G : zG D A s.heap w' H locs) (hdg : decode cc pc = .ok (.dreturn, 1)) (hc : cells ≤ mc) (hs : slots ≤ ms) (hx : ∃ x, w'.map Prod.fst = w0.map Prod.fst ++ x) (hq : Qv (some (.double v)) w') :
    W p l e R s m args below meth c H locs cells slots (MQ below (zQ D w0 A Qv) args s mc ms A) (F0 m pc ls [.double v]) :=
  W.widen hc hs (W.dret E.1 E.2.1 hr (fun t ht hW => zQ_of G ht hq hx) G.2.2.1.2.2 hdg hlocks)
theorem z_afterD {mc ms : Nat} {av : Array Value} {Qv : Option Value → va_W → Prop} (G : zG D A H0 ws H locs) (is : List Nat) (hC : is.map (fun i => ws[i]?) = wc.map some) (hn : is.Nodup)
    (hr : va_RunD lw_cs p l e R s m args below meth c H locs cells slots mc ms (F0 m pc ls st0) rest (zQ D wc (va_A wc H.size) Qv av) (va_A wc H.size))
    (kk : ∀ (v : Option Value) (w : va_W) (H1 : Heap) (locs1 : List Loc) (d' : Drawn), Qv v w → zG D A H0 (zput is ws w) H1 locs1 → s.drawn.sameBut d' lw_cs → W p l e R (s.setDrawn d') m args below meth c H1 locs1 (cells + mc) (slots + ms) Q (F0 m (pc + 3) ls (v.toList ++ rest))) :
    W p l e R s m args below meth c H locs cells slots Q (F0 m pc ls st0) := by
  have hF : ∀ q, va_A wc H.size q → A q := va_free (wc := wc) G.2.1 G.2.2.1 G.2.2.2 is hC
  intro T hT X
  obtain ⟨v, st₀, t, T', L, d', hd', h0, X', hL, e1, e2, ⟨⟨v9, w, hv, hq, hP1, hD1, x, hx⟩, hz, hk⟩, st⟩ := hr T hT X
  cases hv
  rw [h0] at hz hk
  rw [← e1] at hP1
  obtain ⟨j1, j2⟩ := zput_join G.1 G.2.1 hC hn (H1 := T'.heap) (fun q h1 h2 => by rw [e1]; exact hk q h1 h2) hF hP1 hD1 hx
  obtain ⟨t2, a1, b1⟩ := kk v w T'.heap (locs ++ L) d' hq ⟨j1, j2,
    ⟨Nat.le_trans G.2.2.1.1 (by rw [e1]; exact hz), fun q h1 h2 => by rw [e1, hk q (Nat.lt_of_lt_of_le h1 G.2.2.1.1) (fun z => h2 (hF q z))]; exact G.2.2.1.2.1 q h1 h2, fun q hq => by
      rcases List.mem_append.mp hq with h | h
      · exact G.2.2.1.2.2 q h
      · exact hF _ (hL q h)⟩, G.2.2.2⟩ hd' T' rfl X'
  exact ⟨t2, st t2 a1, b1⟩
theorem z_callVD {y : MethodName} {bytes : ByteArray} {maxL n mc ms index : Nat} {ret : Option FieldType} {rm : Room} {As : List Value} {Qv : Option Value → va_W → Prop} {C : String} (E : zE p m c cc nL s args own D k4) (G : zG D A H0 ws H locs) (hls : ls.size = nL) (hC : zCD l y (zW y bytes maxL ret) rm D k4 (.ref b :: As) wc mc ms Qv) (hL : zLV own index C y bytes maxL ret n)
    (hrm : rm.cells = mc ∧ rm.slots = ms ∧ rm.frames + 1 ≤ R.frames ∧ 8 + (maxL + 11) + rm.locals ≤ R.locals) (is : List Nat) (hi : is.map (fun i => ws[i]?) = wc.map some) (hnd : is.Nodup)
    (q0 ci : Nat) {cq : vw_C} {fs : List Value} (hcl : vwCl[ci]? = some cq) (hcC : cq.1 = C) (he : ws[q0]? = some (b, .inr (ci, fs))) (hn : As.length = n) (hst : st0 = As.reverse ++ .ref b :: rest) (hW : (rest.map fun v => v.category).sum ≤ 8) (hdg : decode cc pc = .ok (.invokevirtual index, 3)) (hf : cells + mc ≤ R.cells ∧ slots + ms ≤ R.slots)
    (kk : ∀ (v : Option Value) (w : va_W) (H1 : Heap) (locs1 : List Loc) (d' : Drawn), Qv v w → zG D A H0 (zput is ws w) H1 locs1 → s.drawn.sameBut d' lw_cs → W p l e R (s.setDrawn d') m args below meth c H1 locs1 (cells + mc) (slots + ms) Q (F0 m (pc + 3) ls (v.toList ++ rest))) :
    W p l e R s m args below meth c H locs cells slots Q (F0 m pc ls st0) := by
  obtain ⟨⟨w1, w2, w3, w4, w5⟩, d1, d2, d3⟩ := hL
  have hrecv := va_recv E.2.2.2.2.2.1 G.1 hcl he
  rw [hcC] at hrecv
  exact z_afterD G is hi hnd (va_runV_D E.fix (hC H.size) ⟨⟨hrm.1, hrm.2.1, hrm.2.2.1, hrm.2.2.2, E.good w5, List.mem_cons_self, E.w w5, E.w w4, ⟨d1, d2⟩, fun sig h => by rw [h] at d3; exact (Option.some.inj d3).symm, E.w w1⟩, E.w w2, E.w w3⟩
    ⟨zPre_blind, hrecv, z_pre E G is hi hnd (.ref b :: As)⟩ rfl hn hls hst (lv_room hW) hdg hf) kk
end ZDR
/-- a double sum within bounds -/
theorem sum2_b {F : Nat → Nat → Int} {N : Nat} (hN : N ≤ 6) : ∀ j : Nat, (∀ s, s < j → ∀ m, m < N → 0 ≤ F s m ∧ F s m ≤ 5000) → 0 ≤ sumN (fun s => sumN (F s) N) j ∧ sumN (fun s => sumN (F s) N) j ≤ 30000 * j
  | 0, _ => by show (0 : Int) ≤ 0 ∧ (0 : Int) ≤ 30000 * ((0 : Nat) : Int); omega
  | j + 1, h => by
    have ih := sum2_b hN j (fun s hs => h s (by omega))
    have h1 := sumN_b (F := F j) (B := 5000) N (h j (by omega))
    show 0 ≤ sumN (fun s => sumN (F s) N) j + sumN (F j) N ∧ sumN (fun s => sumN (F s) N) j + sumN (F j) N ≤ 30000 * ((j + 1 : Nat) : Int)
    have h2 : (5000 : Int) * N ≤ 30000 := by omega
    omega
