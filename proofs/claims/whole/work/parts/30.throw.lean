/-! throwing: what it needs of the tables and of the heap -/
def zB : List Cond := [.castable "java/lang/IllegalStateException" "java/lang/IllegalStateException", .castable "java/lang/IndexOutOfBoundsException" "java/lang/IndexOutOfBoundsException", .castable "java/lang/IllegalArgumentException" "java/lang/IllegalArgumentException", .declares ⟨"java/lang/RuntimeException", "<init>", "(Ljava/lang/String;)V"⟩, .declares ⟨"java/lang/Exception", "<init>", "(Ljava/lang/String;)V"⟩, .declares ⟨"java/lang/Throwable", "<init>", "(Ljava/lang/String;)V"⟩]
def zStr : List (Nat × String) := [(50, "no more members"), (111, "the slot is closed"), (127, "no slot to close"), (157, "the slot is not closed, or it is settled"), (198, "nothing to pay"), (201, "the limit is less than 0"), (224, "there is nothing of this number"), (227, "outside its bounds"), (229, "all slots are closed")]
/-- the tables' part: it moves with the tables -/
def zXS (U : State) : Prop := (∀ w ∈ zB, va_Nw w U) ∧ ∀ q ∈ zStr, ∃ a, vk_R RX4 q.1 q.2 a U
theorem zXS.moved {s U : State} (hW : s.WarmedH U.vm) (h : zXS s) : zXS U := by
  refine ⟨fun w hw => ?_, fun q hq => ?_⟩
  · have := h.1 w hw
    simp only [zB, List.mem_cons, List.not_mem_nil, or_false] at hw
    rcases hw with rfl | rfl | rfl | rfl | rfl | rfl <;> first | exact va_Nw.warmC hW this | exact va_Nw.warmD hW this
  · obtain ⟨a, ha⟩ := h.2 q hq
    exact ⟨a, ha.warm hW⟩
theorem zXS.same {s U : State} (hv : s.vm = U.vm) (h : zXS s) : zXS U := by
  refine ⟨fun w hw => ?_, fun q hq => ?_⟩
  · have := h.1 w hw
    simp only [zB, List.mem_cons, List.not_mem_nil, or_false] at hw
    rcases hw with rfl | rfl | rfl | rfl | rfl | rfl <;> exact va_Nw.same rfl hv this
  · obtain ⟨a, ha⟩ := h.2 q hq
    exact ⟨a, ha.same hv.symm⟩
/-- the heap's part -/
def zXZ (A : Nat → Prop) (U : State) (H : Heap) : Prop := vx_Zq Bundle.tN "UNASSIGNED_STACK" Bundle.steD A U H ∧ vx_Zq Bundle.tN "SUPPRESSED_SENTINEL" Bundle.listD A U H
theorem zXZ.moved {A : Nat → Prop} {u U : State} {H : Heap} (hvm : u.vm.Alike U.vm) (h : zXZ A u H) : zXZ A U H := ⟨h.1.moved hvm, h.2.moved hvm⟩
theorem zXZ.kept {A : Nat → Prop} {U : State} {H H1 : Heap} (h : zXZ A U H) (hq : ∀ a : Nat, a < H.size → ¬ A a → H1[a]? = H[a]?) : zXZ A U H1 := ⟨h.1.kept hq, h.2.kept hq⟩
theorem zXZ.narrow {A B : Nat → Prop} {U : State} {H : Heap} (h : zXZ A U H) (hAB : ∀ q, B q → A q) : zXZ B U H := ⟨h.1.narrow hAB, h.2.narrow hAB⟩
/-- a call's start where something may be thrown -/
def zPreX (D : va_G) (k4 : Nat → ClassId) (ws : va_W) (sz : Nat) (U : State) : Prop := zPre D k4 ws sz U ∧ zXS U ∧ zXZ (va_A ws sz) U U.heap
/-- where it has thrown: the class, the world as it was -/
def zXC (D : va_G) (ws : va_W) (A : Nat → Prop) (Ex : String) : String → State → State → Prop := fun E st t => E = Ex ∧ va_P D vwCl ws t.heap ∧ va_F A st t
/-- the contract of a method that throws Ex and changes nothing -/
def zCX (l : Launch) (y : MethodName) (wds : List Cond) (rm : Room) (D : va_G) (k4 : Nat → ClassId) (av : List Value) (ws : va_W) (Ex : String) : Prop :=
  ∀ sz : Nat, vx_Met l y wds rm (va_Pc av (zPreX D k4 ws sz)) (fun _ _ _ _ => False) (zXC D ws (va_A ws sz) Ex) 1 6 (va_A ws sz)
theorem zPreX_blind {D : va_G} {k4 : Nat → ClassId} {ws : va_W} {sz : Nat} {av : List Value} : FrameBlind (va_Pc av (zPreX D k4 ws sz)) := by
  intro a U g mk q
  obtain ⟨q0, ⟨q1, q2, q3, q4⟩, q5, q6⟩ := q
  exact ⟨q0, ⟨q1, q2, zK.same (s := U) (U := U.calling g mk a) rfl q3, q4⟩, zXS.same (s := U) (U := U.calling g mk a) rfl q5, zXZ.moved (u := U) (U := U.calling g mk a) (Vm.Alike.refl U.vm) q6⟩
theorem zB_all0 : ((vx_atS RX4 52 "java/lang/IllegalStateException" ["java/lang/RuntimeException", "java/lang/Exception"]).all fun w => goodWord w || decide (w ∈ zB)) = true := by decide +kernel
theorem zB_all1 : ((vx_atS RX4 226 "java/lang/IndexOutOfBoundsException" ["java/lang/RuntimeException", "java/lang/Exception"]).all fun w => goodWord w || decide (w ∈ zB)) = true := by decide +kernel
theorem zB_all2 : ((vx_atS RX4 200 "java/lang/IllegalArgumentException" ["java/lang/RuntimeException", "java/lang/Exception"]).all fun w => goodWord w || decide (w ∈ zB)) = true := by decide +kernel
theorem zB_at {L : List Cond} (h : (L.all fun w => goodWord w || decide (w ∈ zB)) = true) {args : Array Value} {s : State} (h1 : ∀ w ∈ L.filter goodWord, w ∈ zT) (hts : ∀ w ∈ zT, w.before args s = true) (hB : ∀ w ∈ zB, va_Nw w s) : ∀ w ∈ L, w.before args s = true := by
  intro w hw
  have := List.all_eq_true.mp h w hw
  rcases (Bool.or_eq_true _ _).mp this with h2 | h2
  · exact hts w (h1 w (List.mem_filter.mpr ⟨hw, h2⟩))
  · have hb := of_decide_eq_true h2
    have hv := hB w hb
    simp only [zB, List.mem_cons, List.not_mem_nil, or_false] at hb
    rcases hb with rfl | rfl | rfl | rfl | rfl | rfl <;> exact va_Nw.use rfl hv
theorem zOt0 : ∀ w ∈ Cond.classLink RX4 48 "java/lang/IllegalStateException" :: Cond.initialized "java/lang/IllegalStateException" :: vx_atS RX4 52 "java/lang/IllegalStateException" ["java/lang/RuntimeException", "java/lang/Exception"], vx_ot w = true := by decide +kernel
theorem zOt1 : ∀ w ∈ Cond.classLink RX4 222 "java/lang/IndexOutOfBoundsException" :: Cond.initialized "java/lang/IndexOutOfBoundsException" :: vx_atS RX4 226 "java/lang/IndexOutOfBoundsException" ["java/lang/RuntimeException", "java/lang/Exception"], vx_ot w = true := by decide +kernel
theorem zOt2 : ∀ w ∈ Cond.classLink RX4 196 "java/lang/IllegalArgumentException" :: Cond.initialized "java/lang/IllegalArgumentException" :: vx_atS RX4 200 "java/lang/IllegalArgumentException" ["java/lang/RuntimeException", "java/lang/Exception"], vx_ot w = true := by decide +kernel
section ZX
variable {p : Program} {l : Launch} {e : Env} {R : Room} {s : State} {m : MethodId} {args : Array Value} {below : List Frame} {meth : Method} {c : Code} {H : Heap} {locs : List Loc} {cells slots : Nat} {Q : State → Prop}
variable {cc : ByteArray} {nL : Nat} {own : String} {D : va_G} {k4 : Nat → ClassId} {pc : Nat} {ls : Array Slot} {rest st0 : List Value} {A : Nat → Prop} {H0 : Heap} {ws wc : va_W} {a b : Nat}
variable {y : MethodName} {bytes : ByteArray} {maxL n mc ms index : Nat} {ret : Option FieldType} {rm : Room} {As : List Value} {Qv : Option Value → va_W → Prop} {C Ex : String}
/-- new Ex(text) thrown: the end of the walk -/
theorem z_throw (E : zE p m c cc nL s args RX4 D k4) (hl : l.stackTraces = false) (hXS : zXS s) (hXZ : zXZ A s s.heap) (G : zG D A s.heap ws H locs) (hls : ls.size = nL) {ik is ic : Nat} {text : String}
    (hk : Cond.classLink RX4 ik Ex ∈ zA) (hini : Cond.initialized Ex ∈ zA) (hfit : Bundle.fit Ex = true) (hstr : (is, text) ∈ zStr)
    (hall : ((vx_atS RX4 ic Ex ["java/lang/RuntimeException", "java/lang/Exception"]).all fun w => goodWord w || decide (w ∈ zB)) = true) (hin : ∀ w ∈ (vx_atS RX4 ic Ex ["java/lang/RuntimeException", "java/lang/Exception"]).filter goodWord, w ∈ zT)
    (hot : ∀ w ∈ Cond.classLink RX4 ik Ex :: Cond.initialized Ex :: vx_atS RX4 ic Ex ["java/lang/RuntimeException", "java/lang/Exception"], vx_ot w = true)
    (d0 : decode cc pc = .ok (.new ik, 3)) (d3 : decode cc (pc + 3) = .ok (.dup, 1)) (d4 : decode cc (pc + 4) = .ok (.ldc is, 2)) (d6 : decode cc (pc + 6) = .ok (.invokespecial ic, 3)) (d9 : decode cc (pc + 9) = .ok (.athrow, 1))
    (hout : c.exceptionTable.toList = []) (hlocks : meth.locks = false) (hRf : 5 < R.frames) (hRl : (rest.map fun v => v.category).sum + 82 ≤ R.locals) (hRc : cells + 1 ≤ R.cells) (hRs : slots + 6 ≤ R.slots) (hc : cells = 0) (hs : slots = 0) :
    W p l e R s m args below meth c H locs cells slots (vx_MQ below (fun _ _ _ _ => False) (zXC D ws A Ex) args s 1 6 A) (F0 m pc ls rest) := by
  obtain ⟨sa, hsa⟩ := hXS.2 _ hstr
  refine vx_throwS (cc := cc) (names := ["java/lang/RuntimeException", "java/lang/Exception"]) (text := text) (sa := sa) (A := A) E.1 E.2.1 hl E.2.2.2.1 hfit (by decide +kernel) (E.w hk) (E.w hini) hsa (zB_at hall hin E.2.2.2.2.1 hXS.1) hot hXZ.1 hXZ.2 G.2.2.1 (hls.trans E.2.2.1.symm) d0 d3 d4 d6 d9
    (by rw [hout]; intro x hx; exact absurd hx List.not_mem_nil) (by show 2 + 3 < _; omega) (by show _ + (13 * (2 + 1) + 43) ≤ _; omega) hRc hRs hlocks (fun t hA hz hq => ⟨rfl, ?_, ?_⟩) G.2.2.1.2.2 (by omega) (by omega)
  · exact G.1.kept (fun k q hk => hq q.1 ((G.1 k q hk).lt))
  · exact ⟨Nat.le_trans G.2.2.1.1 hz, fun q h1 h2 => (hq q (Nat.lt_of_lt_of_le h1 G.2.2.1.1)).trans (G.2.2.1.2.1 q h1 h2)⟩
end ZX
