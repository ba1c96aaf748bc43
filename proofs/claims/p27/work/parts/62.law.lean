theorem suf_map {α : Type} : ∀ (wc pre : List α), (List.range' pre.length wc.length).map (fun i => (pre ++ wc)[i]?) = wc.map some
  | [], pre => rfl
  | c :: wc, pre => by
    have ih := suf_map wc (pre ++ [c])
    rw [List.length_append] at ih
    show (pre ++ c :: wc)[pre.length]? :: (List.range' (pre.length + 1) wc.length).map (fun i => (pre ++ c :: wc)[i]?) = some c :: wc.map some
    rw [show pre ++ c :: wc = pre ++ [c] ++ wc by simp]
    rw [show (pre ++ [c] ++ wc)[pre.length]? = some c by simp]
    exact congrArg _ ih
theorem zput_suf : ∀ (wc w pre : va_W), wc.length ≤ w.length → zput (List.range' pre.length wc.length) (pre ++ wc) w = pre ++ w
  | [], [], pre, _ => rfl
  | [], q :: w, pre, _ => by
    show pre ++ [] ++ (q :: w) = _
    rw [List.append_nil]
  | c :: wc, [], pre, h => absurd h (by simp)
  | c :: wc, q :: w, pre, h => by
    have ih := zput_suf wc w (pre ++ [q]) (by simpa using h)
    rw [List.length_append] at ih
    show zput (List.range' (pre.length + 1) wc.length) ((pre ++ c :: wc).set pre.length q) w = pre ++ q :: w
    rw [show (pre ++ c :: wc).set pre.length q = pre ++ [q] ++ wc by simp]
    rw [show pre ++ q :: w = pre ++ [q] ++ w by simp]
    exact ih
section ZWR
variable {p : Program} {l : Launch} {e : Env} {R : Room} {s : State} {m : MethodId} {args : Array Value} {below : List Frame} {meth : Method} {c : Code} {H : Heap} {locs : List Loc} {cells slots : Nat} {Q : State → Prop}
variable {cc : ByteArray} {nL : Nat} {own : String} {D : va_G} {k4 : Nat → ClassId} {pc : Nat} {ls : Array Slot} {rest st0 : List Value} {A : Nat → Prop} {H0 : Heap} {ws wc : va_W} {a b : Nat}
variable {y : MethodName} {bytes : ByteArray} {maxL n mc ms index : Nat} {ret : Option FieldType} {rm : Room} {As : List Value} {Qv : Option Value → va_W → Prop} {C Ex : String} {hh : List (Nat × Nat × Nat × Nat)}
theorem z_afterS {av : Array Value} {pre : va_W} (G : zG D A H0 (pre ++ wc) H locs)
    (hr : va_Run p l e R s m args below meth c H locs cells slots mc ms (F0 m pc ls st0) rest (zQ D wc (va_A wc H.size) Qv av) (va_A wc H.size))
    (kk : ∀ (v : Option Value) (w : va_W) (H1 : Heap) (locs1 : List Loc), Qv v w → zG D A H0 (pre ++ w) H1 locs1 → W p l e R s m args below meth c H1 locs1 (cells + mc) (slots + ms) Q (F0 m (pc + 3) ls (v.toList ++ rest))) :
    W p l e R s m args below meth c H locs cells slots Q (F0 m pc ls st0) := by
  have hr' : va_Run p l e R s m args below meth c H locs cells slots mc ms (F0 m pc ls st0) rest (zQ D wc (va_A wc H.size) (fun v w => Qv v w ∧ wc.length ≤ w.length) av) (va_A wc H.size) := fun T hT X => by
    obtain ⟨v, st₀, t, T', L, h0, X', hL, e1, e2, ⟨⟨v9, w, hv, hq, hP1, hD1, x, hx⟩, hF⟩, st⟩ := hr T hT X
    exact ⟨v, st₀, t, T', L, h0, X', hL, e1, e2, ⟨⟨v9, w, hv, ⟨hq, by have := congrArg List.length hx; simp at this; omega⟩, hP1, hD1, x, hx⟩, hF⟩, st⟩
  exact z_after G (List.range' pre.length wc.length) (suf_map wc pre) List.nodup_range' hr' (fun v w H1 locs1 hq G9 => kk v w H1 locs1 hq.1 (zput_suf wc w pre hq.2 ▸ G9))
/-- a call of a method whose world stands at the end of the caller's -/
theorem z_callVs {pre : va_W} (E : zE p m c cc nL s args own D k4) (G : zG D A H0 (pre ++ wc) H locs) (hls : ls.size = nL) (hC : zC l y (zW y bytes maxL ret) rm D k4 (.ref b :: As) wc mc ms Qv) (hL : zLV own index C y bytes maxL ret n)
    (hrm : rm.cells = mc ∧ rm.slots = ms ∧ rm.frames + 1 ≤ R.frames ∧ 8 + (maxL + 11) + rm.locals ≤ R.locals)
    (q0 ci : Nat) {cq : vw_C} {fs : List Value} (hcl : vwCl[ci]? = some cq) (hcC : cq.1 = C) (he : (pre ++ wc)[q0]? = some (b, .inr (ci, fs))) (hn : As.length = n) (hst : st0 = As.reverse ++ .ref b :: rest) (hW : (rest.map fun v => v.category).sum ≤ 8) (hdg : decode cc pc = .ok (.invokevirtual index, 3)) (hf : cells + mc ≤ R.cells ∧ slots + ms ≤ R.slots)
    (kk : ∀ (v : Option Value) (w : va_W) (H1 : Heap) (locs1 : List Loc), Qv v w → zG D A H0 (pre ++ w) H1 locs1 → W p l e R s m args below meth c H1 locs1 (cells + mc) (slots + ms) Q (F0 m (pc + 3) ls (v.toList ++ rest))) :
    W p l e R s m args below meth c H locs cells slots Q (F0 m pc ls st0) := by
  obtain ⟨⟨w1, w2, w3, w4, w5⟩, d1, d2, d3⟩ := hL
  have hrecv := va_recv E.2.2.2.2.2.1 G.1 hcl he
  rw [hcC] at hrecv
  exact z_afterS G (va_runV E.fix (hC H.size) ⟨⟨hrm.1, hrm.2.1, hrm.2.2.1, hrm.2.2.2, E.good w5, List.mem_cons_self, E.w w5, E.w w4, ⟨d1, d2⟩, fun sig h => by rw [h] at d3; exact (Option.some.inj d3).symm, E.w w1⟩, E.w w2, E.w w3⟩
    ⟨zPre_blind, hrecv, z_pre E G (List.range' pre.length wc.length) (suf_map wc pre) List.nodup_range' (.ref b :: As)⟩ rfl hn hls hst (lv_room hW) hdg hf) kk
end ZWR
def zSc (b L : Nat) (xs : Nat → Int32) (s : State) (A : Nat → Prop) : Prop := va_X b L xs s s.heap ∧ b < s.heap.size ∧ ¬ A b ∧ L ≤ 2560
theorem z_sld {p : Program} {l : Launch} {e : Env} {R : Room} {s : State} {m : MethodId} {args : Array Value} {below : List Frame} {meth : Method} {c : Code} {H : Heap} {locs : List Loc} {cells slots : Nat} {Q : State → Prop} {cc : ByteArray} {nL : Nat} {own : String} {D : va_G} {k4 : Nat → ClassId} {pc : Nat} {ls : Array Slot} {rest : List Value} {A : Nat → Prop} {ws : va_W} {b L : Nat} {xs : Nat → Int32}
    (E : zE p m c cc nL s args own D k4) (S : zSc b L xs s A) (G : zG D A s.heap ws H locs) {z : Int} (j : Nat) (hz : z = (j : Int)) (hj : j < L) (hdg : decode cc pc = .ok (.iaload, 1))
    (kk : W p l e R s m args below meth c H locs cells slots Q (F0 m (pc + 1) ls (.int (iI (xs j).toInt) :: rest))) : W p l e R s m args below meth c H locs cells slots Q (F0 m pc ls (.int (iI z) :: .ref b :: rest)) := by
  subst hz
  have hL := S.2.2.2
  have e1 : (iI (j : Int)).toNatClampNeg = j := iI_clamp (by omega)
  refine va_sld E.1 E.2.1 S.1 S.2.1 S.2.2.1 G.2.2.1 (i := iI (j : Int)) (iI_in hj (by omega)) hdg ?_
  rw [e1, iI_of (xs j)]
  exact kk
/-- the class in the world of the law -/
noncomputable def xW (k4 : Nat → ClassId) (lo lnow lsl lcl lba ldu nsh nrk h1 r1 q1 h2 r2 q2 : Nat) (ta : Nat → Nat) (sa : Nat → Nat → Nat) (n p st : Nat) (cc bc pot gr bk : Int) (nw bal due : Nat → Int) (S1 S2 : sS) (tx : Nat → Nat → Int) (sg : Nat → Nat → Nat → Int) : va_W := ((lo, .inr (4, [.ref lnow, .ref lsl, .ref (ta 0), .ref lcl, .ref lba, .ref ldu, .int (iI (((n : Nat) : Int))), .int (iI (((p : Nat) : Int))), .int (iI (((st : Nat) : Int))), .int (iI (cc)), .int (iI (bc)), .long (lI (pot)), .long (lI (gr)), .long (lI (bk))])) :: (lnow, .inr (3, [.ref nsh, .ref nrk, .int (iI (nw 0)), .int (iI (nw 1)), .int (iI (nw 2)), .int (iI (nw 3)), .int (iI (nw 4)), .int (iI (nw 5)), .int (iI (nw 6))])) :: (nsh, .inl (k4 0, 6, .inl (fun i9 => iI ((fun i => nw (7 + i)) i9)))) :: (nrk, .inl (k4 0, 6, .inl (fun i9 => iI ((fun i => nw (13 + i)) i9)))) :: (lsl, .inl (k4 3, 48, .inr (.inr (.inr (.inr (fun i => some (sa i 0))))))) :: ((ta 0), .inr (2, [.ref (ta 1), .ref (ta 4), .ref (ta 5), .ref (ta 6), .int (iI (tx 4 0)), .int (iI (tx 4 1))])) :: ((ta 1), .inr (3, [.ref (ta 2), .ref (ta 3), .int (iI ((tx 0) 0)), .int (iI ((tx 0) 1)), .int (iI ((tx 0) 2)), .int (iI ((tx 0) 3)), .int (iI ((tx 0) 4)), .int (iI ((tx 0) 5)), .int (iI ((tx 0) 6))])) :: ((ta 2), .inl (k4 0, 6, .inl (fun i9 => iI ((fun i => (tx 0) (7 + i)) i9)))) :: ((ta 3), .inl (k4 0, 6, .inl (fun i9 => iI ((fun i => (tx 0) (13 + i)) i9)))) :: ((ta 4), .inl (k4 0, 6, .inl (fun i9 => iI ((tx 1) i9)))) :: ((ta 5), .inl (k4 0, 6, .inl (fun i9 => iI ((tx 2) i9)))) :: ((ta 6), .inl (k4 0, 48, .inl (fun i9 => iI ((tx 3) i9)))) :: (lcl, .inr (0, [.ref h1, .ref h2])) :: (h1, .inr (1, [.ref r1, .ref q1, .int (iI (S1.1))])) :: (r1, .inl (k4 0, 6, .inl (fun i9 => iI (S1.2.1 i9)))) :: (q1, .inl (k4 0, 6, .inl (fun i9 => iI (S1.2.2 i9)))) :: (h2, .inr (1, [.ref r2, .ref q2, .int (iI (S2.1))])) :: (r2, .inl (k4 0, 6, .inl (fun i9 => iI (S2.2.1 i9)))) :: (q2, .inl (k4 0, 6, .inl (fun i9 => iI (S2.2.2 i9)))) :: (lba, .inl (k4 1, 6, .inr (.inl (fun i9 => lI (bal i9))))) :: (ldu, .inl (k4 1, 6, .inr (.inl (fun i9 => lI (due i9))))) :: (slF k4 sa sg NS))
