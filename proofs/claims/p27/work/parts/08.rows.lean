/-! rows over integers: E the machine, G the world -/
def zE (p : Program) (m : MethodId) (c : Code) (cc : ByteArray) (nL : Nat) (s : State) (args : Array Value) (own : String) (D : va_G) (k4 : Nat → ClassId) : Prop :=
  p.tables.exec = Jvm.exec ∧ c.code = cc ∧ c.maxLocals = nL ∧ s.vm.findClass own = some m.cls ∧ (∀ w ∈ zT, w.before args s = true) ∧ zK D k4 s
def zG (D : va_G) (A : Nat → Prop) (H0 : Heap) (ws : va_W) (H : Heap) (locs : List Loc) : Prop := va_P D vwCl ws H ∧ va_D A ws ∧ va_S A H0 H locs ∧ ∀ q, H0.size ≤ q → A q
abbrev tys4 (k4 : Nat → ClassId) : List (ClassId × FieldType) := [(k4 0, .int), (k4 1, .long), (k4 2, .int), (k4 3, .object "EnergyLedger$Slot")]
theorem arrV_congr {cI : ClassId} {N : Nat} {f g : Nat → Value} (h : ∀ j, j < N → f j = g j) : arrV cI N f = arrV cI N g := by
  have h1 : (fun j : Fin N => f j.val) = (fun j : Fin N => g j.val) := funext fun j => h j.1 j.2
  show ({ cls := cI, slots := Array.ofFn (n := N) fun j => f j.val, vm := .none } : Cell) = _
  rw [h1]
  rfl
section ZR
variable {p : Program} {l : Launch} {e : Env} {R : Room} {s : State} {m : MethodId} {args : Array Value} {below : List Frame} {meth : Method} {c : Code} {H : Heap} {locs : List Loc} {cells slots : Nat} {Q : State → Prop}
variable {cc : ByteArray} {nL : Nat} {own : String} {D : va_G} {k4 : Nat → ClassId} {pc : Nat} {ls : Array Slot} {rest : List Value} {A : Nat → Prop} {H0 : Heap} {ws : va_W} {a : Nat}
theorem zE.w (E : zE p m c cc nL s args own D k4) {w : Cond} (h : w ∈ zA) : w.before args s = true := E.2.2.2.2.1 w (zT_A h)
theorem zE.nest (E : zE p m c cc nL s args own D k4) {w : Cond} (h : w ∈ zN) : va_Nw w s := E.2.2.2.2.2.2.1 w h
theorem zG.perm {ws' : va_W} (G : zG D A H0 ws H locs) (h : ws.Perm ws') : zG D A H0 ws' H locs := ⟨G.1.perm h, G.2.1.perm h, G.2.2.1, G.2.2.2⟩
theorem zG.to {ws' : va_W} (G : zG D A H0 ws H locs) (h : ws = ws') : zG D A H0 ws' H locs := h ▸ G
-- loads, stores
theorem z_iload_n (E : zE p m c cc nL s args own D k4) {lv : List (Nat × Value)} (hl : lv_has ls nL lv) (q : Nat) {k : Fin 4} {i : Nat} {x : Int32} (hq : lv[q]? = some (i, .int x)) (hdg : decode cc pc = .ok (.iload_n k, 1)) (hi : (k : Nat) = i)
    (kk : W p l e R s m args below meth c H locs cells slots Q (F0 m (pc + 1) ls (.int x :: rest))) : W p l e R s m args below meth c H locs cells slots Q (F0 m pc ls rest) := lv_iload_n E.1 E.2.1 hdg hi (lv_at hl q hq) kk
theorem z_iload (E : zE p m c cc nL s args own D k4) {lv : List (Nat × Value)} (hl : lv_has ls nL lv) (q : Nat) {i : Nat} {x : Int32} (hq : lv[q]? = some (i, .int x)) (hdg : decode cc pc = .ok (.iload i, 2))
    (kk : W p l e R s m args below meth c H locs cells slots Q (F0 m (pc + 2) ls (.int x :: rest))) : W p l e R s m args below meth c H locs cells slots Q (F0 m pc ls rest) := lv_iload E.1 E.2.1 hdg (lv_at hl q hq) kk
theorem z_aload_n (E : zE p m c cc nL s args own D k4) {lv : List (Nat × Value)} (hl : lv_has ls nL lv) (q : Nat) {k : Fin 4} {i : Nat} {x : Nat} (hq : lv[q]? = some (i, .ref x)) (hdg : decode cc pc = .ok (.aload_n k, 1)) (hi : (k : Nat) = i)
    (kk : W p l e R s m args below meth c H locs cells slots Q (F0 m (pc + 1) ls (.ref x :: rest))) : W p l e R s m args below meth c H locs cells slots Q (F0 m pc ls rest) := lv_aload_n E.1 E.2.1 hdg hi (lv_at hl q hq) kk
theorem z_aload (E : zE p m c cc nL s args own D k4) {lv : List (Nat × Value)} (hl : lv_has ls nL lv) (q : Nat) {i : Nat} {x : Nat} (hq : lv[q]? = some (i, .ref x)) (hdg : decode cc pc = .ok (.aload i, 2))
    (kk : W p l e R s m args below meth c H locs cells slots Q (F0 m (pc + 2) ls (.ref x :: rest))) : W p l e R s m args below meth c H locs cells slots Q (F0 m pc ls rest) := lv_aload E.1 E.2.1 hdg (lv_at hl q hq) kk
theorem z_lload_n (E : zE p m c cc nL s args own D k4) {lv : List (Nat × Value)} (hl : lv_has ls nL lv) (q : Nat) {k : Fin 4} {i : Nat} {x : Int64} (hq : lv[q]? = some (i, .long x)) (hdg : decode cc pc = .ok (.lload_n k, 1)) (hi : (k : Nat) = i)
    (kk : W p l e R s m args below meth c H locs cells slots Q (F0 m (pc + 1) ls (.long x :: rest))) : W p l e R s m args below meth c H locs cells slots Q (F0 m pc ls rest) := lv_lload_n E.1 E.2.1 hdg hi (lv_at hl q hq) kk
theorem z_lload (E : zE p m c cc nL s args own D k4) {lv : List (Nat × Value)} (hl : lv_has ls nL lv) (q : Nat) {i : Nat} {x : Int64} (hq : lv[q]? = some (i, .long x)) (hdg : decode cc pc = .ok (.lload i, 2))
    (kk : W p l e R s m args below meth c H locs cells slots Q (F0 m (pc + 2) ls (.long x :: rest))) : W p l e R s m args below meth c H locs cells slots Q (F0 m pc ls rest) := lv_lload E.1 E.2.1 hdg (lv_at hl q hq) kk
theorem z_istore_n (E : zE p m c cc nL s args own D k4) {k : Fin 4} {i : Nat} {x : Int32} {lv : List (Nat × Value)} (lv' : List (Nat × Value)) (hdg : decode cc pc = .ok (.istore_n k, 1)) (hi : (k : Nat) = i) (h : lv_has ls nL lv) (hn : i < nL) (hl : (i, Value.int x) :: lv.filter (fun q => !(q.1 == i) && !(q.1 + 1 == i && q.2.category == 2)) = lv')
    (kk : ∀ ls' : Array Slot, lv_has ls' nL lv' → W p l e R s m args below meth c H locs cells slots Q (F0 m (pc + 1) ls' rest)) : W p l e R s m args below meth c H locs cells slots Q (F0 m pc ls (.int x :: rest)) := lv_istore_n E.1 E.2.1 hdg hi h hn hl kk
theorem z_istore (E : zE p m c cc nL s args own D k4) {i : Nat} {x : Int32} {lv : List (Nat × Value)} (lv' : List (Nat × Value)) (hdg : decode cc pc = .ok (.istore i, 2)) (h : lv_has ls nL lv) (hn : i < nL) (hl : (i, Value.int x) :: lv.filter (fun q => !(q.1 == i) && !(q.1 + 1 == i && q.2.category == 2)) = lv')
    (kk : ∀ ls' : Array Slot, lv_has ls' nL lv' → W p l e R s m args below meth c H locs cells slots Q (F0 m (pc + 2) ls' rest)) : W p l e R s m args below meth c H locs cells slots Q (F0 m pc ls (.int x :: rest)) := lv_istore E.1 E.2.1 hdg h hn hl kk
theorem z_lstore_n (E : zE p m c cc nL s args own D k4) {k : Fin 4} {i : Nat} {x : Int64} {lv : List (Nat × Value)} (lv' : List (Nat × Value)) (hdg : decode cc pc = .ok (.lstore_n k, 1)) (hi : (k : Nat) = i) (h : lv_has ls nL lv) (hn : i + 1 < nL) (hl : (i, Value.long x) :: lv.filter (fun q => !(q.1 == i) && (!(q.1 == i + 1) && !(q.1 + 1 == i && q.2.category == 2))) = lv')
    (kk : ∀ ls' : Array Slot, lv_has ls' nL lv' → W p l e R s m args below meth c H locs cells slots Q (F0 m (pc + 1) ls' rest)) : W p l e R s m args below meth c H locs cells slots Q (F0 m pc ls (.long x :: rest)) := lv_lstore_n E.1 E.2.1 hdg hi h hn hl kk
theorem z_lstore (E : zE p m c cc nL s args own D k4) {i : Nat} {x : Int64} {lv : List (Nat × Value)} (lv' : List (Nat × Value)) (hdg : decode cc pc = .ok (.lstore i, 2)) (h : lv_has ls nL lv) (hn : i + 1 < nL) (hl : (i, Value.long x) :: lv.filter (fun q => !(q.1 == i) && (!(q.1 == i + 1) && !(q.1 + 1 == i && q.2.category == 2))) = lv')
    (kk : ∀ ls' : Array Slot, lv_has ls' nL lv' → W p l e R s m args below meth c H locs cells slots Q (F0 m (pc + 2) ls' rest)) : W p l e R s m args below meth c H locs cells slots Q (F0 m pc ls (.long x :: rest)) := lv_lstore E.1 E.2.1 hdg h hn hl kk
theorem z_astore_n (E : zE p m c cc nL s args own D k4) {k : Fin 4} {i : Nat} {x : Nat} {lv : List (Nat × Value)} (lv' : List (Nat × Value)) (hdg : decode cc pc = .ok (.astore_n k, 1)) (hi : (k : Nat) = i) (h : lv_has ls nL lv) (hn : i < nL) (hl : (i, Value.ref x) :: lv.filter (fun q => !(q.1 == i) && !(q.1 + 1 == i && q.2.category == 2)) = lv')
    (kk : ∀ ls' : Array Slot, lv_has ls' nL lv' → W p l e R s m args below meth c H locs cells slots Q (F0 m (pc + 1) ls' rest)) : W p l e R s m args below meth c H locs cells slots Q (F0 m pc ls (.ref x :: rest)) := lv_astore_n E.1 E.2.1 hdg hi h hn hl kk
theorem z_astore (E : zE p m c cc nL s args own D k4) {i : Nat} {x : Nat} {lv : List (Nat × Value)} (lv' : List (Nat × Value)) (hdg : decode cc pc = .ok (.astore i, 2)) (h : lv_has ls nL lv) (hn : i < nL) (hl : (i, Value.ref x) :: lv.filter (fun q => !(q.1 == i) && !(q.1 + 1 == i && q.2.category == 2)) = lv')
    (kk : ∀ ls' : Array Slot, lv_has ls' nL lv' → W p l e R s m args below meth c H locs cells slots Q (F0 m (pc + 2) ls' rest)) : W p l e R s m args below meth c H locs cells slots Q (F0 m pc ls (.ref x :: rest)) := lv_astore E.1 E.2.1 hdg h hn hl kk
theorem z_iinc (E : zE p m c cc nL s args own D k4) {i k : Nat} {n z : Int} {lv : List (Nat × Value)} (lv' : List (Nat × Value)) (hdg : decode cc pc = .ok (.iinc i n, 3)) (h : lv_has ls nL lv) (hk : lv[k]? = some (i, .int (iI z))) (hn : i < nL) (hl : (i, Value.int (iI (z + n))) :: lv.filter (fun q => !(q.1 == i) && !(q.1 + 1 == i && q.2.category == 2)) = lv')
    (kk : ∀ ls' : Array Slot, lv_has ls' nL lv' → W p l e R s m args below meth c H locs cells slots Q (F0 m (pc + 3) ls' rest)) : W p l e R s m args below meth c H locs cells slots Q (F0 m pc ls rest) := lv_iinc E.1 E.2.1 hdg h hk (iI_add z n) hn hl kk
-- constants, arithmetic
theorem z_iconst (E : zE p m c cc nL s args own D k4) {n : Int} (hdg : decode cc pc = .ok (.iconst n, 1))
    (kk : W p l e R s m args below meth c H locs cells slots Q (F0 m (pc + 1) ls (.int (iI n) :: rest))) : W p l e R s m args below meth c H locs cells slots Q (F0 m pc ls rest) := lv_iconst E.1 E.2.1 hdg rfl kk
theorem z_bipush (E : zE p m c cc nL s args own D k4) {n : Int} (hdg : decode cc pc = .ok (.bipush n, 2)) (h : -128 ≤ n ∧ n < 128)
    (kk : W p l e R s m args below meth c H locs cells slots Q (F0 m (pc + 2) ls (.int (iI n) :: rest))) : W p l e R s m args below meth c H locs cells slots Q (F0 m pc ls rest) := lv_bipush E.1 E.2.1 hdg (bp_iI n h.1 h.2) kk
theorem z_sipush (E : zE p m c cc nL s args own D k4) {n : Int} (hdg : decode cc pc = .ok (.sipush n, 3)) (h : -32768 ≤ n ∧ n < 32768)
    (kk : W p l e R s m args below meth c H locs cells slots Q (F0 m (pc + 3) ls (.int (iI n) :: rest))) : W p l e R s m args below meth c H locs cells slots Q (F0 m pc ls rest) := lv_sipush E.1 E.2.1 hdg (sp_iI n h.1 h.2) kk
theorem z_ldc (E : zE p m c cc nL s args own D k4) {index : Nat} {v : Int32} {n : Int} (w : Cond.constant own index v ∈ zA) (hv : v = iI n) (hdg : decode cc pc = .ok (.ldc index, 2))
    (kk : W p l e R s m args below meth c H locs cells slots Q (F0 m (pc + 2) ls (.int (iI n) :: rest))) : W p l e R s m args below meth c H locs cells slots Q (F0 m pc ls rest) := lv_ldc E.1 E.2.1 E.2.2.2.1 (E.w w) hdg (hv ▸ kk)
theorem z_ldc2 (E : zE p m c cc nL s args own D k4) {index : Nat} {v : Int64} {n : Int} (w : Cond.constantLong own index v ∈ zA) (hv : v = lI n) (hdg : decode cc pc = .ok (.ldc2_w index, 3))
    (kk : W p l e R s m args below meth c H locs cells slots Q (F0 m (pc + 3) ls (.long (lI n) :: rest))) : W p l e R s m args below meth c H locs cells slots Q (F0 m pc ls rest) := lv_ldc2 E.1 E.2.1 E.2.2.2.1 (E.w w) hdg (hv ▸ kk)
theorem z_lconst (E : zE p m c cc nL s args own D k4) {n : Fin 2} {z : Int} (hdg : decode cc pc = .ok (.lconst n, 1)) (hz : Int64.ofNat (n : Nat) = lI z)
    (kk : W p l e R s m args below meth c H locs cells slots Q (F0 m (pc + 1) ls (.long (lI z) :: rest))) : W p l e R s m args below meth c H locs cells slots Q (F0 m pc ls rest) := lv_lconst E.1 E.2.1 hdg hz kk
theorem z_iadd (E : zE p m c cc nL s args own D k4) {x y : Int} (hdg : decode cc pc = .ok (.iadd, 1))
    (kk : W p l e R s m args below meth c H locs cells slots Q (F0 m (pc + 1) ls (.int (iI (x + y)) :: rest))) : W p l e R s m args below meth c H locs cells slots Q (F0 m pc ls (.int (iI y) :: .int (iI x) :: rest)) := lv_iadd E.1 E.2.1 hdg (by rw [iI_add]; exact kk)
theorem z_isub (E : zE p m c cc nL s args own D k4) {x y : Int} (hdg : decode cc pc = .ok (.isub, 1))
    (kk : W p l e R s m args below meth c H locs cells slots Q (F0 m (pc + 1) ls (.int (iI (x - y)) :: rest))) : W p l e R s m args below meth c H locs cells slots Q (F0 m pc ls (.int (iI y) :: .int (iI x) :: rest)) := lv_isub E.1 E.2.1 hdg (by rw [iI_sub]; exact kk)
theorem z_imul (E : zE p m c cc nL s args own D k4) {x y : Int} (hdg : decode cc pc = .ok (.imul, 1))
    (kk : W p l e R s m args below meth c H locs cells slots Q (F0 m (pc + 1) ls (.int (iI (x * y)) :: rest))) : W p l e R s m args below meth c H locs cells slots Q (F0 m pc ls (.int (iI y) :: .int (iI x) :: rest)) := lv_imul E.1 E.2.1 hdg (by rw [iI_mul]; exact kk)
theorem z_idiv (E : zE p m c cc nL s args own D k4) {x y : Int} (hdg : decode cc pc = .ok (.idiv, 1)) (hx : 0 ≤ x ∧ x < 2147483648) (hy : 0 < y ∧ y < 2147483648)
    (kk : W p l e R s m args below meth c H locs cells slots Q (F0 m (pc + 1) ls (.int (iI (x / y)) :: rest))) : W p l e R s m args below meth c H locs cells slots Q (F0 m pc ls (.int (iI y) :: .int (iI x) :: rest)) := lv_idiv E.1 E.2.1 hdg (iI_ne0 ⟨by omega, hy.2⟩ (by omega)) (by rw [iI_div hx.1 hx.2 hy.1 hy.2]; exact kk)
theorem z_i2l (E : zE p m c cc nL s args own D k4) {x : Int} (hdg : decode cc pc = .ok (.i2l, 1)) (hx : rng x)
    (kk : W p l e R s m args below meth c H locs cells slots Q (F0 m (pc + 1) ls (.long (lI x) :: rest))) : W p l e R s m args below meth c H locs cells slots Q (F0 m pc ls (.int (iI x) :: rest)) := lv_i2l E.1 E.2.1 hdg (iI_l hx) kk
theorem z_ladd (E : zE p m c cc nL s args own D k4) {x y : Int} (hdg : decode cc pc = .ok (.ladd, 1))
    (kk : W p l e R s m args below meth c H locs cells slots Q (F0 m (pc + 1) ls (.long (lI (x + y)) :: rest))) : W p l e R s m args below meth c H locs cells slots Q (F0 m pc ls (.long (lI y) :: .long (lI x) :: rest)) := lv_ladd E.1 E.2.1 hdg (by rw [lI_add]; exact kk)
theorem z_lsub (E : zE p m c cc nL s args own D k4) {x y : Int} (hdg : decode cc pc = .ok (.lsub, 1))
    (kk : W p l e R s m args below meth c H locs cells slots Q (F0 m (pc + 1) ls (.long (lI (x - y)) :: rest))) : W p l e R s m args below meth c H locs cells slots Q (F0 m pc ls (.long (lI y) :: .long (lI x) :: rest)) := lv_lsub E.1 E.2.1 hdg (by rw [lI_sub]; exact kk)
theorem z_lmul (E : zE p m c cc nL s args own D k4) {x y : Int} (hdg : decode cc pc = .ok (.lmul, 1))
    (kk : W p l e R s m args below meth c H locs cells slots Q (F0 m (pc + 1) ls (.long (lI (x * y)) :: rest))) : W p l e R s m args below meth c H locs cells slots Q (F0 m pc ls (.long (lI y) :: .long (lI x) :: rest)) := lv_lmul E.1 E.2.1 hdg (by rw [lI_mul]; exact kk)
theorem z_lneg (E : zE p m c cc nL s args own D k4) {x : Int} (hdg : decode cc pc = .ok (.lneg, 1))
    (kk : W p l e R s m args below meth c H locs cells slots Q (F0 m (pc + 1) ls (.long (lI (-x)) :: rest))) : W p l e R s m args below meth c H locs cells slots Q (F0 m pc ls (.long (lI x) :: rest)) := lv_lneg E.1 E.2.1 hdg (by rw [lI_neg]; exact kk)
-- the stack
theorem z_dup (E : zE p m c cc nL s args own D k4) {va : Value} (hdg : decode cc pc = .ok (.dup, 1)) (hva : va.category = 1)
    (kk : W p l e R s m args below meth c H locs cells slots Q (F0 m (pc + 1) ls (va :: va :: rest))) : W p l e R s m args below meth c H locs cells slots Q (F0 m pc ls (va :: rest)) := lv_dup E.1 E.2.1 hdg hva kk
theorem z_pop (E : zE p m c cc nL s args own D k4) {va : Value} (hdg : decode cc pc = .ok (.pop, 1)) (hva : va.category = 1)
    (kk : W p l e R s m args below meth c H locs cells slots Q (F0 m (pc + 1) ls rest)) : W p l e R s m args below meth c H locs cells slots Q (F0 m pc ls (va :: rest)) := lv_pop E.1 E.2.1 hdg hva kk
/-- the top, written otherwise -/
theorem z_eq {x y : Int} (h : x = y) (kk : W p l e R s m args below meth c H locs cells slots Q (F0 m pc ls (.int (iI y) :: rest))) : W p l e R s m args below meth c H locs cells slots Q (F0 m pc ls (.int (iI x) :: rest)) := h ▸ kk
theorem z_eql {x y : Int} (h : x = y) (kk : W p l e R s m args below meth c H locs cells slots Q (F0 m pc ls (.long (lI y) :: rest))) : W p l e R s m args below meth c H locs cells slots Q (F0 m pc ls (.long (lI x) :: rest)) := h ▸ kk
-- branches
theorem z_goto (E : zE p m c cc nL s args own D k4) {off : Int} {tgt : Nat} (hdg : decode cc pc = .ok (.goto off, 3)) (ht : (pc : Int) + off = (tgt : Int))
    (kk : W p l e R s m args below meth c H locs cells slots Q (F0 m tgt ls rest)) : W p l e R s m args below meth c H locs cells slots Q (F0 m pc ls rest) := lv_goto E.1 E.2.1 hdg ht kk
theorem z_icmp_eq (E : zE p m c cc nL s args own D k4) {x y : Int} {off : Int} {tgt : Nat} (hdg : decode cc pc = .ok (.if_icmp .eq off, 3)) (ht : (pc : Int) + off = (tgt : Int)) (hx : rng x) (hy : rng y)
    (kt : x = y → W p l e R s m args below meth c H locs cells slots Q (F0 m tgt ls rest)) (kf : x ≠ y → W p l e R s m args below meth c H locs cells slots Q (F0 m (pc + 3) ls rest)) : W p l e R s m args below meth c H locs cells slots Q (F0 m pc ls (.int (iI y) :: .int (iI x) :: rest)) := lv_icmp_eq E.1 E.2.1 hdg ht (fun q => kt ((iI_eq hx hy).mp q)) (fun q => kf (fun z => q ((iI_eq hx hy).mpr z)))
theorem z_icmp_ne (E : zE p m c cc nL s args own D k4) {x y : Int} {off : Int} {tgt : Nat} (hdg : decode cc pc = .ok (.if_icmp .ne off, 3)) (ht : (pc : Int) + off = (tgt : Int)) (hx : rng x) (hy : rng y)
    (kt : x ≠ y → W p l e R s m args below meth c H locs cells slots Q (F0 m tgt ls rest)) (kf : x = y → W p l e R s m args below meth c H locs cells slots Q (F0 m (pc + 3) ls rest)) : W p l e R s m args below meth c H locs cells slots Q (F0 m pc ls (.int (iI y) :: .int (iI x) :: rest)) := lv_icmp_ne E.1 E.2.1 hdg ht (fun q => kt (fun z => q ((iI_eq hx hy).mpr z))) (fun q => kf ((iI_eq hx hy).mp q))
theorem z_icmp_lt (E : zE p m c cc nL s args own D k4) {x y : Int} {off : Int} {tgt : Nat} (hdg : decode cc pc = .ok (.if_icmp .lt off, 3)) (ht : (pc : Int) + off = (tgt : Int)) (hx : rng x) (hy : rng y)
    (kt : x < y → W p l e R s m args below meth c H locs cells slots Q (F0 m tgt ls rest)) (kf : y ≤ x → W p l e R s m args below meth c H locs cells slots Q (F0 m (pc + 3) ls rest)) : W p l e R s m args below meth c H locs cells slots Q (F0 m pc ls (.int (iI y) :: .int (iI x) :: rest)) := lv_icmp_lt E.1 E.2.1 hdg ht (fun q => kt ((iI_lt hx hy).mp q)) (fun q => kf (Int.not_lt.mp (fun z => q ((iI_lt hx hy).mpr z))))
theorem z_icmp_ge (E : zE p m c cc nL s args own D k4) {x y : Int} {off : Int} {tgt : Nat} (hdg : decode cc pc = .ok (.if_icmp .ge off, 3)) (ht : (pc : Int) + off = (tgt : Int)) (hx : rng x) (hy : rng y)
    (kt : y ≤ x → W p l e R s m args below meth c H locs cells slots Q (F0 m tgt ls rest)) (kf : x < y → W p l e R s m args below meth c H locs cells slots Q (F0 m (pc + 3) ls rest)) : W p l e R s m args below meth c H locs cells slots Q (F0 m pc ls (.int (iI y) :: .int (iI x) :: rest)) := lv_icmp_ge E.1 E.2.1 hdg ht (fun q => kt ((iI_le hy hx).mp q)) (fun q => kf (Int.not_le.mp (fun z => q ((iI_le hy hx).mpr z))))
theorem z_icmp_gt (E : zE p m c cc nL s args own D k4) {x y : Int} {off : Int} {tgt : Nat} (hdg : decode cc pc = .ok (.if_icmp .gt off, 3)) (ht : (pc : Int) + off = (tgt : Int)) (hx : rng x) (hy : rng y)
    (kt : y < x → W p l e R s m args below meth c H locs cells slots Q (F0 m tgt ls rest)) (kf : x ≤ y → W p l e R s m args below meth c H locs cells slots Q (F0 m (pc + 3) ls rest)) : W p l e R s m args below meth c H locs cells slots Q (F0 m pc ls (.int (iI y) :: .int (iI x) :: rest)) := lv_icmp_gt E.1 E.2.1 hdg ht (fun q => kt ((iI_lt hy hx).mp q)) (fun q => kf (Int.not_lt.mp (fun z => q ((iI_lt hy hx).mpr z))))
theorem z_icmp_le (E : zE p m c cc nL s args own D k4) {x y : Int} {off : Int} {tgt : Nat} (hdg : decode cc pc = .ok (.if_icmp .le off, 3)) (ht : (pc : Int) + off = (tgt : Int)) (hx : rng x) (hy : rng y)
    (kt : x ≤ y → W p l e R s m args below meth c H locs cells slots Q (F0 m tgt ls rest)) (kf : y < x → W p l e R s m args below meth c H locs cells slots Q (F0 m (pc + 3) ls rest)) : W p l e R s m args below meth c H locs cells slots Q (F0 m pc ls (.int (iI y) :: .int (iI x) :: rest)) := lv_icmp_le E.1 E.2.1 hdg ht (fun q => kt ((iI_le hx hy).mp q)) (fun q => kf (Int.not_le.mp (fun z => q ((iI_le hx hy).mpr z))))
theorem z_if_eq (E : zE p m c cc nL s args own D k4) {x : Int} {off : Int} {tgt : Nat} (hdg : decode cc pc = .ok (.ifCond .eq off, 3)) (ht : (pc : Int) + off = (tgt : Int)) (hx : rng x)
    (kt : x = 0 → W p l e R s m args below meth c H locs cells slots Q (F0 m tgt ls rest)) (kf : x ≠ 0 → W p l e R s m args below meth c H locs cells slots Q (F0 m (pc + 3) ls rest)) : W p l e R s m args below meth c H locs cells slots Q (F0 m pc ls (.int (iI x) :: rest)) := lv_if_eq E.1 E.2.1 hdg ht (fun q => kt ((iI_eq hx rng0).mp (q.trans iI_0.symm))) (fun q => kf (fun z => q ((congrArg iI z).trans iI_0)))
theorem z_if_ne (E : zE p m c cc nL s args own D k4) {x : Int} {off : Int} {tgt : Nat} (hdg : decode cc pc = .ok (.ifCond .ne off, 3)) (ht : (pc : Int) + off = (tgt : Int)) (hx : rng x)
    (kt : x ≠ 0 → W p l e R s m args below meth c H locs cells slots Q (F0 m tgt ls rest)) (kf : x = 0 → W p l e R s m args below meth c H locs cells slots Q (F0 m (pc + 3) ls rest)) : W p l e R s m args below meth c H locs cells slots Q (F0 m pc ls (.int (iI x) :: rest)) := lv_if_ne E.1 E.2.1 hdg ht (fun q => kt (fun z => q ((congrArg iI z).trans iI_0))) (fun q => kf ((iI_eq hx rng0).mp (q.trans iI_0.symm)))
theorem z_if_lt (E : zE p m c cc nL s args own D k4) {x : Int} {off : Int} {tgt : Nat} (hdg : decode cc pc = .ok (.ifCond .lt off, 3)) (ht : (pc : Int) + off = (tgt : Int)) (hx : rng x)
    (kt : x < 0 → W p l e R s m args below meth c H locs cells slots Q (F0 m tgt ls rest)) (kf : 0 ≤ x → W p l e R s m args below meth c H locs cells slots Q (F0 m (pc + 3) ls rest)) : W p l e R s m args below meth c H locs cells slots Q (F0 m pc ls (.int (iI x) :: rest)) := lv_if_lt E.1 E.2.1 hdg ht (fun q => kt ((iI_lt hx rng0).mp q)) (fun q => kf (Int.not_lt.mp (fun z => q ((iI_lt hx rng0).mpr z))))
theorem z_if_ge (E : zE p m c cc nL s args own D k4) {x : Int} {off : Int} {tgt : Nat} (hdg : decode cc pc = .ok (.ifCond .ge off, 3)) (ht : (pc : Int) + off = (tgt : Int)) (hx : rng x)
    (kt : 0 ≤ x → W p l e R s m args below meth c H locs cells slots Q (F0 m tgt ls rest)) (kf : x < 0 → W p l e R s m args below meth c H locs cells slots Q (F0 m (pc + 3) ls rest)) : W p l e R s m args below meth c H locs cells slots Q (F0 m pc ls (.int (iI x) :: rest)) := lv_if_ge E.1 E.2.1 hdg ht (fun q => kt ((iI_le rng0 hx).mp q)) (fun q => kf (Int.not_le.mp (fun z => q ((iI_le rng0 hx).mpr z))))
theorem z_if_gt (E : zE p m c cc nL s args own D k4) {x : Int} {off : Int} {tgt : Nat} (hdg : decode cc pc = .ok (.ifCond .gt off, 3)) (ht : (pc : Int) + off = (tgt : Int)) (hx : rng x)
    (kt : 0 < x → W p l e R s m args below meth c H locs cells slots Q (F0 m tgt ls rest)) (kf : x ≤ 0 → W p l e R s m args below meth c H locs cells slots Q (F0 m (pc + 3) ls rest)) : W p l e R s m args below meth c H locs cells slots Q (F0 m pc ls (.int (iI x) :: rest)) := lv_if_gt E.1 E.2.1 hdg ht (fun q => kt ((iI_lt rng0 hx).mp q)) (fun q => kf (Int.not_lt.mp (fun z => q ((iI_lt rng0 hx).mpr z))))
theorem z_if_le (E : zE p m c cc nL s args own D k4) {x : Int} {off : Int} {tgt : Nat} (hdg : decode cc pc = .ok (.ifCond .le off, 3)) (ht : (pc : Int) + off = (tgt : Int)) (hx : rng x)
    (kt : x ≤ 0 → W p l e R s m args below meth c H locs cells slots Q (F0 m tgt ls rest)) (kf : 0 < x → W p l e R s m args below meth c H locs cells slots Q (F0 m (pc + 3) ls rest)) : W p l e R s m args below meth c H locs cells slots Q (F0 m pc ls (.int (iI x) :: rest)) := lv_if_le E.1 E.2.1 hdg ht (fun q => kt ((iI_le hx rng0).mp q)) (fun q => kf (Int.not_le.mp (fun z => q ((iI_le hx rng0).mpr z))))
theorem z_ifnull (E : zE p m c cc nL s args own D k4) {x : Nat} {off : Int} (hdg : decode cc pc = .ok (.ifnull off, 3)) (kk : W p l e R s m args below meth c H locs cells slots Q (F0 m (pc + 3) ls rest)) : W p l e R s m args below meth c H locs cells slots Q (F0 m pc ls (.ref x :: rest)) := lv_ifnull E.1 E.2.1 hdg kk
-- arrays
theorem z_iald (E : zE p m c cc nL s args own D k4) (G : zG D A H0 ws H locs) (q0 : Nat) {n : Nat} {F : Nat → Int} (ha : ws[q0]? = some (a, .inl (k4 0, n, .inl (fun k => iI (F k))))) {z : Int} (j : Nat) (hz : z = (j : Int)) (hj : j < n) (hn : n < 2147483648) (hdg : decode cc pc = .ok (.iaload, 1))
    (kk : W p l e R s m args below meth c H locs cells slots Q (F0 m (pc + 1) ls (.int (iI (F j)) :: rest))) : W p l e R s m args below meth c H locs cells slots Q (F0 m pc ls (.int (iI z) :: .ref a :: rest)) := by
  subst hz
  refine va_iald (tys := tys4 k4) E.1 E.2.1 E.2.2.2.2.2.1 G.1 q0 0 ha rfl (iI_in hj hn) hdg ?_
  rw [iI_clamp (Nat.lt_trans hj hn)]
  exact kk
theorem z_lald (E : zE p m c cc nL s args own D k4) (G : zG D A H0 ws H locs) (q0 : Nat) {n : Nat} {F : Nat → Int} (ha : ws[q0]? = some (a, .inl (k4 1, n, .inr (.inl (fun k => lI (F k)))))) {z : Int} (j : Nat) (hz : z = (j : Int)) (hj : j < n) (hn : n < 2147483648) (hdg : decode cc pc = .ok (.laload, 1))
    (kk : W p l e R s m args below meth c H locs cells slots Q (F0 m (pc + 1) ls (.long (lI (F j)) :: rest))) : W p l e R s m args below meth c H locs cells slots Q (F0 m pc ls (.int (iI z) :: .ref a :: rest)) := by
  subst hz
  refine va_lald (tys := tys4 k4) E.1 E.2.1 E.2.2.2.2.2.1 G.1 q0 1 ha rfl (iI_in hj hn) hdg ?_
  rw [iI_clamp (Nat.lt_trans hj hn)]
  exact kk
theorem z_aald (E : zE p m c cc nL s args own D k4) (G : zG D A H0 ws H locs) (q0 : Nat) {n : Nat} {F : Nat → Option Nat} (ha : ws[q0]? = some (a, .inl (k4 3, n, .inr (.inr (.inr (.inr F)))))) {z : Int} (j : Nat) (hz : z = (j : Int)) (hj : j < n) (hn : n < 2147483648) (r : Nat) (hr : F j = some r) (hdg : decode cc pc = .ok (.aaload, 1))
    (kk : W p l e R s m args below meth c H locs cells slots Q (F0 m (pc + 1) ls (.ref r :: rest))) : W p l e R s m args below meth c H locs cells slots Q (F0 m pc ls (.int (iI z) :: .ref a :: rest)) := by
  subst hz
  refine va_aldq (tys := tys4 k4) (C := "EnergyLedger$Slot") E.1 E.2.1 E.2.2.2.2.2.1 G.1 q0 3 ha rfl (iI_in hj hn) hdg ?_
  rw [iI_clamp (Nat.lt_trans hj hn), hr]
  exact kk
theorem z_iast (E : zE p m c cc nL s args own D k4) (G : zG D A H0 ws H locs) (q0 : Nat) {n : Nat} {F : Nat → Int} (ha : ws[q0]? = some (a, .inl (k4 0, n, .inl (fun k => iI (F k))))) {z x : Int} (j : Nat) (hz : z = (j : Int)) (hj : j < n) (hn : n < 2147483648) (hdg : decode cc pc = .ok (.iastore, 1))
    (kk : ∀ (H1 : Heap) (locs1 : List Loc), zG D A H0 (ws.set q0 (a, .inl (k4 0, n, .inl (fun k => iI (up F j x k))))) H1 locs1 → W p l e R s m args below meth c H1 locs1 cells slots Q (F0 m (pc + 1) ls rest)) : W p l e R s m args below meth c H locs cells slots Q (F0 m pc ls (.int (iI x) :: .int (iI z) :: .ref a :: rest)) := by
  subst hz
  refine va_iast (tys := tys4 k4) E.1 E.2.1 E.2.2.2.2.2.1 G.1 G.2.1 G.2.2.1 q0 0 ha rfl (iI_in hj hn) hdg (fun H1 locs1 h1 h2 h3 => ?_)
  rw [iI_clamp (Nat.lt_trans hj hn), upd_iI] at h1 h2
  exact kk H1 locs1 ⟨h1, h2, h3, G.2.2.2⟩
theorem z_last (E : zE p m c cc nL s args own D k4) (G : zG D A H0 ws H locs) (q0 : Nat) {n : Nat} {F : Nat → Int} (ha : ws[q0]? = some (a, .inl (k4 1, n, .inr (.inl (fun k => lI (F k)))))) {z x : Int} (j : Nat) (hz : z = (j : Int)) (hj : j < n) (hn : n < 2147483648) (hdg : decode cc pc = .ok (.lastore, 1))
    (kk : ∀ (H1 : Heap) (locs1 : List Loc), zG D A H0 (ws.set q0 (a, .inl (k4 1, n, .inr (.inl (fun k => lI (up F j x k)))))) H1 locs1 → W p l e R s m args below meth c H1 locs1 cells slots Q (F0 m (pc + 1) ls rest)) : W p l e R s m args below meth c H locs cells slots Q (F0 m pc ls (.long (lI x) :: .int (iI z) :: .ref a :: rest)) := by
  subst hz
  refine va_last (tys := tys4 k4) E.1 E.2.1 E.2.2.2.2.2.1 G.1 G.2.1 G.2.2.1 q0 1 ha rfl (iI_in hj hn) hdg (fun H1 locs1 h1 h2 h3 => ?_)
  rw [iI_clamp (Nat.lt_trans hj hn), updL_lI] at h1 h2
  exact kk H1 locs1 ⟨h1, h2, h3, G.2.2.2⟩
theorem z_alen (E : zE p m c cc nL s args own D k4) (G : zG D A H0 ws H locs) (q0 t0 : Nat) {cA : ClassId} {n : Nat} {x : (Nat → Int32) ⊕ (Nat → Int64) ⊕ (Nat → UInt32) ⊕ (Nat → UInt64) ⊕ (Nat → Option Nat)} (ha : ws[q0]? = some (a, .inl (cA, n, x))) {ty : FieldType} (ht : (tys4 k4)[t0]? = some (cA, ty)) (hdg : decode cc pc = .ok (.arraylength, 1))
    (kk : W p l e R s m args below meth c H locs cells slots Q (F0 m (pc + 1) ls (.int (iI (n : Int)) :: rest))) : W p l e R s m args below meth c H locs cells slots Q (F0 m pc ls (.ref a :: rest)) := va_alen (tys := tys4 k4) E.1 E.2.1 E.2.2.2.2.2.1 G.1 q0 t0 ha ht rfl hdg kk
/-- cells that hold the same within their length -/
theorem z_ext {n : Nat} {F F' : Nat → Int} {cA : ClassId} (G : zG D A H0 ws H locs) (q0 : Nat) (ha : ws[q0]? = some (a, .inl (cA, n, .inl (fun k => iI (F k))))) (h : ∀ k, k < n → F k = F' k) : zG D A H0 (ws.set q0 (a, .inl (cA, n, .inl (fun k => iI (F' k))))) H locs := by
  refine ⟨va_P.set G.1 G.2.1 ha ?_ (fun _ _ => rfl), va_D.set G.2.1 ha, G.2.2.1, G.2.2.2⟩
  have h1 : va_at D vwCl (a, .inl (cA, n, .inl (fun k => iI (F k)))) H := G.1 q0 _ ha
  have h2 : vp_cell cA (n, .inl (fun k => iI (F k))) = vp_cell cA (n, .inl (fun k => iI (F' k))) := by
    rw [vp_cell_i, vp_cell_i]
    exact arrV_congr (fun j hj => by rw [h j hj])
  exact h1.trans (congrArg some h2)
theorem z_extl {n : Nat} {F F' : Nat → Int} {cA : ClassId} (G : zG D A H0 ws H locs) (q0 : Nat) (ha : ws[q0]? = some (a, .inl (cA, n, .inr (.inl (fun k => lI (F k)))))) (h : ∀ k, k < n → F k = F' k) : zG D A H0 (ws.set q0 (a, .inl (cA, n, .inr (.inl (fun k => lI (F' k)))))) H locs := by
  refine ⟨va_P.set G.1 G.2.1 ha ?_ (fun _ _ => rfl), va_D.set G.2.1 ha, G.2.2.1, G.2.2.2⟩
  have h1 : va_at D vwCl (a, .inl (cA, n, .inr (.inl (fun k => lI (F k))))) H := G.1 q0 _ ha
  have h2 : vp_cell cA (n, .inr (.inl (fun k => lI (F k)))) = vp_cell cA (n, .inr (.inl (fun k => lI (F' k)))) := by
    rw [vp_cell_l, vp_cell_l]
    exact arrV_congr (fun j hj => by rw [h j hj])
  exact h1.trans (congrArg some h2)
/-- Math.min, Math.max -/
theorem z_min (E : zE p m c cc nL s args own D k4) (hsz : ls.size = nL) {index : Nat} (w1 : Cond.methodLink own index Lib.Math.min.name ∈ zA) (hini : Cond.initialized "java/lang/Math" ∈ zA) (w3 : Cond.static Lib.Math.min.name ∈ zA) (w4 : Cond.code Lib.Math.min.name Lib.Math.min.code 2 (some .int) ∈ zA)
    (hfr : 1 ≤ R.frames) (hlo : (rest.map fun v => v.category).sum + 13 ≤ R.locals) (hc : cells ≤ R.cells) (hs : slots ≤ R.slots) {x y : Int} (hx : rng x) (hy : rng y) (hdg : decode cc pc = .ok (.invokestatic index, 3))
    (kk : W p l e R s m args below meth c H locs cells slots Q (F0 m (pc + 3) ls (.int (iI (min x y)) :: rest))) : W p l e R s m args below meth c H locs cells slots Q (F0 m pc ls (.int (iI y) :: .int (iI x) :: rest)) :=
  va_mmin E.1 E.2.1 (E.2.2.1.trans hsz.symm) E.2.2.2.1 (E.w w1) (E.w w3) (E.w hini) (E.w w4) hfr hlo hc hs hdg (by rw [iI_min hx hy]; exact kk)
theorem z_max (E : zE p m c cc nL s args own D k4) (hsz : ls.size = nL) {index : Nat} (w1 : Cond.methodLink own index Lib.Math.max.name ∈ zA) (hini : Cond.initialized "java/lang/Math" ∈ zA) (w3 : Cond.static Lib.Math.max.name ∈ zA) (w4 : Cond.code Lib.Math.max.name Lib.Math.max.code 2 (some .int) ∈ zA)
    (hfr : 1 ≤ R.frames) (hlo : (rest.map fun v => v.category).sum + 13 ≤ R.locals) (hc : cells ≤ R.cells) (hs : slots ≤ R.slots) {x y : Int} (hx : rng x) (hy : rng y) (hdg : decode cc pc = .ok (.invokestatic index, 3))
    (kk : W p l e R s m args below meth c H locs cells slots Q (F0 m (pc + 3) ls (.int (iI (max x y)) :: rest))) : W p l e R s m args below meth c H locs cells slots Q (F0 m pc ls (.int (iI y) :: .int (iI x) :: rest)) :=
  va_mmax E.1 E.2.1 (E.2.2.1.trans hsz.symm) E.2.2.2.1 (E.w w1) (E.w w3) (E.w hini) (E.w w4) hfr hlo hc hs hdg (by rw [iI_max hx hy]; exact kk)
/-! a contract's start -/
theorem zC_of {y : MethodName} {maxL : Nat} {ret : Option FieldType} {rm : Room} {av : List Value} {mc ms : Nat} {Qv : Option Value → va_W → Prop} (hy : plainName y.cls = true) (hav : (lg_sl av).length ≤ maxL)
    (body : ∀ (p : Program) (e : Env) (s : State) (m : MethodId) (below : List Frame) (meth : Method) (c : Code) (A : Nat → Prop) (H : Heap) (locs : List Loc) (ls : Array Slot), zE p m c cc maxL s av.toArray y.cls D k4 → meth.sig.returnType = ret → meth.locks = false → meth.name = y.name →
      zG D A s.heap ws H locs → lv_has ls maxL (lv_args 0 av) →
      W p l e rm s m av.toArray below meth c H locs 0 0 (MQ below (zQ D ws A Qv) av.toArray s mc ms A) (F0 m 0 ls [])) : zC l y (zW y cc maxL ret) rm D k4 av ws mc ms Qv := by
  intro sz
  refine Met.ofW (cc := cc) (maxL := maxL) (ret := ret) hy rfl ?_
  intro p e s m args below meth c s₁ B hml hv
  obtain ⟨rfl, hsz, hP, hK, hD0⟩ := hv
  subst hsz
  have hts := atoms_spec (ws := zW y cc maxL ret) B.pre
  have hD := hD0.self (sz := s.heap.size)
  have hl := lv_entry av (n := maxL) hav
  rw [lg_entry_eq]
  exact body p e s m below meth c (va_A ws s.heap.size) s.heap [] _ ⟨B.exec, B.bytes, hml, findClass_of_methodNamed B.named, fun w h => hts w (List.mem_cons_of_mem _ h), hK⟩ B.returns B.notSynchronized (name_of_methodNamed B.named B.method).1 ⟨hP, hD, va_S.rf, fun q h => Or.inr h⟩ hl
/-! a contract's end -/
theorem zx0 {w w' : va_W} (h : w'.map Prod.fst = w.map Prod.fst) : ∃ x, w'.map Prod.fst = w.map Prod.fst ++ x := ⟨[], by rw [h, List.append_nil]⟩
theorem zQ_of {w0 w' : va_W} {av : Array Value} {v : Option Value} {t : State} {Qv : Option Value → va_W → Prop} (G : zG D A s.heap w' H locs) (ht : t.heap = H) (hq : Qv v w') (hx : ∃ x, w'.map Prod.fst = w0.map Prod.fst ++ x) : zQ D w0 A Qv av s (.returned v) t :=
  ⟨⟨v, w', rfl, hq, by rw [ht]; exact G.1, G.2.1, hx⟩, G.2.2.1.F ht⟩
theorem z_iret {w0 w' : va_W} {v : Int} {Qv : Option Value → va_W → Prop} {mc ms : Nat} (E : zE p m c cc nL s args own D k4) (hr : meth.sig.returnType = some .int) (hlocks : meth.locks = false) (G : zG D A s.heap w' H locs) (hdg : decode cc pc = .ok (.ireturn, 1)) (hc : cells ≤ mc) (hs : slots ≤ ms) (hx : ∃ x, w'.map Prod.fst = w0.map Prod.fst ++ x) (hq : Qv (some (.int (iI v))) w') :
    W p l e R s m args below meth c H locs cells slots (MQ below (zQ D w0 A Qv) args s mc ms A) (F0 m pc ls [.int (iI v)]) :=
  W.widen hc hs (W.iret E.1 E.2.1 hr (fun t ht hW => zQ_of G ht hq hx) G.2.2.1.2.2 hdg hlocks)
theorem z_zret {w0 w' : va_W} {v : Int} {Qv : Option Value → va_W → Prop} {mc ms : Nat} (E : zE p m c cc nL s args own D k4) (hr : meth.sig.returnType = some .boolean) (hlocks : meth.locks = false) (G : zG D A s.heap w' H locs) (hdg : decode cc pc = .ok (.ireturn, 1)) (hc : cells ≤ mc) (hs : slots ≤ ms) (hb : v = 0 ∨ v = 1) (hx : ∃ x, w'.map Prod.fst = w0.map Prod.fst ++ x) (hq : Qv (some (.int (iI v))) w') :
    W p l e R s m args below meth c H locs cells slots (MQ below (zQ D w0 A Qv) args s mc ms A) (F0 m pc ls [.int (iI v)]) :=
  W.widen hc hs (W.zret (ty := .boolean) E.1 E.2.1 hr (by rcases hb with rfl | rfl <;> decide) (fun t ht hW => zQ_of G ht hq hx) G.2.2.1.2.2 hdg hlocks)
theorem z_lret {w0 w' : va_W} {v : Int} {Qv : Option Value → va_W → Prop} {mc ms : Nat} (E : zE p m c cc nL s args own D k4) (hr : meth.sig.returnType = some .long) (hlocks : meth.locks = false) (G : zG D A s.heap w' H locs) (hdg : decode cc pc = .ok (.lreturn, 1)) (hc : cells ≤ mc) (hs : slots ≤ ms) (hx : ∃ x, w'.map Prod.fst = w0.map Prod.fst ++ x) (hq : Qv (some (.long (lI v))) w') :
    W p l e R s m args below meth c H locs cells slots (MQ below (zQ D w0 A Qv) args s mc ms A) (F0 m pc ls [.long (lI v)]) :=
  W.widen hc hs (W.lret E.1 E.2.1 hr (fun t ht hW => zQ_of G ht hq hx) G.2.2.1.2.2 hdg hlocks)
theorem z_vret {w0 w' : va_W} {Qv : Option Value → va_W → Prop} {mc ms : Nat} (E : zE p m c cc nL s args own D k4) (hr : meth.sig.returnType = none) (hlocks : meth.locks = false) (G : zG D A s.heap w' H locs) (hdg : decode cc pc = .ok (.return_, 1)) (hc : cells ≤ mc) (hs : slots ≤ ms) (hx : ∃ x, w'.map Prod.fst = w0.map Prod.fst ++ x) (hq : Qv none w') :
    W p l e R s m args below meth c H locs cells slots (MQ below (zQ D w0 A Qv) args s mc ms A) (F0 m pc ls []) :=
  W.widen hc hs (W.vret E.1 E.2.1 hr (fun t ht hW => zQ_of G ht hq hx) G.2.2.1.2.2 hdg hlocks)
theorem z_aret {w0 w' : va_W} {r : Nat} {rt : FieldType} {Qv : Option Value → va_W → Prop} {mc ms : Nat} (E : zE p m c cc nL s args own D k4) (hr : meth.sig.returnType = some rt) (hrt : (∃ n, rt = .object n) ∨ ∃ t, rt = .array t) (hlocks : meth.locks = false) (G : zG D A s.heap w' H locs) (hdg : decode cc pc = .ok (.areturn, 1)) (hc : cells ≤ mc) (hs : slots ≤ ms) (hx : ∃ x, w'.map Prod.fst = w0.map Prod.fst ++ x) (hq : Qv (some (.ref r)) w') :
    W p l e R s m args below meth c H locs cells slots (MQ below (zQ D w0 A Qv) args s mc ms A) (F0 m pc ls [.ref r]) :=
  W.widen hc hs (W.aret E.1 E.2.1 hr hrt (Or.inr ⟨r, rfl⟩) (fun t ht hW => zQ_of G ht hq hx) G.2.2.1.2.2 hdg hlocks)
end ZR
