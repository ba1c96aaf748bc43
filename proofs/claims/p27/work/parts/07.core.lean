/-! words of every method: zT -/
def zX : List Cond := []
def zF : List Cond := wsX00 ++ (wsX10 ++ (wsX20 ++ (wsX30 ++ wsX40)))
def zT : List Cond := zA ++ (zF ++ zX)
theorem zT_A {w : Cond} (h : w ∈ zA) : w ∈ zT := List.mem_append_left _ h
theorem zT_0 : ∀ w ∈ u_ws RX0 TX0 2, w ∈ zT := fun _ h => List.mem_append_right _ (List.mem_append_left _ (List.mem_append_left _ h))
theorem zT_1 : ∀ w ∈ u_ws RX1 TX1 3, w ∈ zT := fun _ h => List.mem_append_right _ (List.mem_append_left _ (List.mem_append_right _ (List.mem_append_left _ h)))
theorem zT_2 : ∀ w ∈ u_ws RX2 TX2 6, w ∈ zT := fun _ h => List.mem_append_right _ (List.mem_append_left _ (List.mem_append_right _ (List.mem_append_right _ (List.mem_append_left _ h))))
theorem zT_3 : ∀ w ∈ u_ws RX3 TX3 9, w ∈ zT := fun _ h => List.mem_append_right _ (List.mem_append_left _ (List.mem_append_right _ (List.mem_append_right _ (List.mem_append_right _ (List.mem_append_left _ h)))))
theorem zT_4 : ∀ w ∈ u_ws RX4 TX4 14, w ∈ zT := fun _ h => List.mem_append_right _ (List.mem_append_left _ (List.mem_append_right _ (List.mem_append_right _ (List.mem_append_right _ (List.mem_append_right _ h)))))
set_option maxRecDepth 100000 in
theorem zF0_tbl : ∀ w ∈ wsX00, w ∈ lw_tbl := by
  show ∀ w ∈ [Cond.laysFinal "EnergyLedger$Closing" "EnergyLedger$Closing" "surpluses" "LEnergyLedger$Side;", Cond.laysFinal "EnergyLedger$Closing" "EnergyLedger$Closing" "needs" "LEnergyLedger$Side;"], w ∈ lw_tbl
  exact zA_cons 152 rfl (zA_cons 154 rfl (fun _ h => absurd h List.not_mem_nil))
set_option maxRecDepth 100000 in
theorem zF1_tbl : ∀ w ∈ wsX10, w ∈ lw_tbl := by
  show ∀ w ∈ [Cond.laysFinal "EnergyLedger$Side" "EnergyLedger$Side" "rooms" "[I", Cond.laysFinal "EnergyLedger$Side" "EnergyLedger$Side" "parts" "[I", Cond.lays "EnergyLedger$Side" "EnergyLedger$Side" "left" "I"], w ∈ lw_tbl
  exact zA_cons 143 rfl (zA_cons 145 rfl (zA_cons 147 rfl (fun _ h => absurd h List.not_mem_nil)))
set_option maxRecDepth 100000 in
theorem zF2_tbl : ∀ w ∈ wsX20, w ∈ lw_tbl := by
  show ∀ w ∈ [Cond.laysFinal "EnergyLedger$Slot" "EnergyLedger$Slot" "terms" "LEnergyLedger$Terms;", Cond.laysFinal "EnergyLedger$Slot" "EnergyLedger$Slot" "generated" "[I", Cond.laysFinal "EnergyLedger$Slot" "EnergyLedger$Slot" "used" "[I", Cond.laysFinal "EnergyLedger$Slot" "EnergyLedger$Slot" "flows" "[I", Cond.lays "EnergyLedger$Slot" "EnergyLedger$Slot" "contentBefore" "I", Cond.lays "EnergyLedger$Slot" "EnergyLedger$Slot" "contentAfter" "I"], w ∈ lw_tbl
  exact zA_cons 115 rfl (zA_cons 117 rfl (zA_cons 119 rfl (zA_cons 121 rfl (zA_cons 123 rfl (zA_cons 125 rfl (fun _ h => absurd h List.not_mem_nil))))))
set_option maxRecDepth 100000 in
theorem zF3_tbl : ∀ w ∈ wsX30, w ∈ lw_tbl := by
  show ∀ w ∈ [Cond.laysFinal "EnergyLedger$Terms" "EnergyLedger$Terms" "shares" "[I", Cond.laysFinal "EnergyLedger$Terms" "EnergyLedger$Terms" "ranks" "[I", Cond.lays "EnergyLedger$Terms" "EnergyLedger$Terms" "rule" "I", Cond.lays "EnergyLedger$Terms" "EnergyLedger$Terms" "buy" "I", Cond.lays "EnergyLedger$Terms" "EnergyLedger$Terms" "sell" "I", Cond.lays "EnergyLedger$Terms" "EnergyLedger$Terms" "among" "I", Cond.lays "EnergyLedger$Terms" "EnergyLedger$Terms" "capacity" "I", Cond.lays "EnergyLedger$Terms" "EnergyLedger$Terms" "power" "I", Cond.lays "EnergyLedger$Terms" "EnergyLedger$Terms" "efficiency" "I"], w ∈ lw_tbl
  exact zA_cons 72 rfl (zA_cons 74 rfl (zA_cons 76 rfl (zA_cons 78 rfl (zA_cons 80 rfl (zA_cons 82 rfl (zA_cons 84 rfl (zA_cons 86 rfl (zA_cons 88 rfl (fun _ h => absurd h List.not_mem_nil)))))))))
set_option maxRecDepth 100000 in
theorem zF4_tbl : ∀ w ∈ wsX40, w ∈ lw_tbl := by
  show ∀ w ∈ [Cond.laysFinal "EnergyLedger" "EnergyLedger" "now" "LEnergyLedger$Terms;", Cond.laysFinal "EnergyLedger" "EnergyLedger" "slots" "[LEnergyLedger$Slot;", Cond.laysFinal "EnergyLedger" "EnergyLedger" "trial" "LEnergyLedger$Slot;", Cond.laysFinal "EnergyLedger" "EnergyLedger" "closing" "LEnergyLedger$Closing;", Cond.laysFinal "EnergyLedger" "EnergyLedger" "balances" "[J", Cond.laysFinal "EnergyLedger" "EnergyLedger" "dues" "[J", Cond.lays "EnergyLedger" "EnergyLedger" "memberCount" "I", Cond.lays "EnergyLedger" "EnergyLedger" "presentSlot" "I", Cond.lays "EnergyLedger" "EnergyLedger" "settledSlots" "I", Cond.lays "EnergyLedger" "EnergyLedger" "correctionCount" "I", Cond.lays "EnergyLedger" "EnergyLedger" "batteryContent" "I", Cond.lays "EnergyLedger" "EnergyLedger" "pot" "J", Cond.lays "EnergyLedger" "EnergyLedger" "grid" "J", Cond.lays "EnergyLedger" "EnergyLedger" "bank" "J"], w ∈ lw_tbl
  exact zA_cons 171 rfl (zA_cons 173 rfl (zA_cons 175 rfl (zA_cons 177 rfl (zA_cons 179 rfl (zA_cons 181 rfl (zA_cons 183 rfl (zA_cons 185 rfl (zA_cons 187 rfl (zA_cons 189 rfl (zA_cons 191 rfl (zA_cons 193 rfl (zA_cons 195 rfl (zA_cons 197 rfl (fun _ h => absurd h List.not_mem_nil))))))))))))))
theorem zF_tbl : ∀ w ∈ zF, w ∈ lw_tbl := by
  intro w h
  rcases List.mem_append.mp h with h | h
  · exact zF0_tbl w h
  rcases List.mem_append.mp h with h | h
  · exact zF1_tbl w h
  rcases List.mem_append.mp h with h | h
  · exact zF2_tbl w h
  rcases List.mem_append.mp h with h | h
  · exact zF3_tbl w h
  · exact zF4_tbl w h
theorem zX_tbl : ∀ w ∈ zX, w ∈ lw_tbl := fun w h => absurd h List.not_mem_nil
theorem zT_good : GoodIn lw_tbl zT := goodIn_app zA_good (goodIn_app (goodIn_sub zF_tbl (by decide +kernel)) (goodIn_sub zX_tbl (by decide +kernel)))
/-- a method's words: its own code, then all -/
def zW (y : MethodName) (cc : ByteArray) (n : Nat) (r : Option FieldType) : List Cond := Cond.code y cc n r :: zT
theorem zW_good {y y' : MethodName} {cc cc' : ByteArray} {n n' : Nat} {r r' : Option FieldType} (h : Cond.code y' cc' n' r' ∈ zA) : GoodIn (zW y cc n r) (zW y' cc' n' r') := by
  intro w hw
  rcases List.mem_cons.mp hw with rfl | hw
  · exact ⟨List.mem_cons_of_mem _ (zT_A h), (zT_good _ (zT_A h)).2⟩
  · exact ⟨List.mem_cons_of_mem _ hw, (zT_good _ hw).2⟩
/-- the links between nest mates -/
def zN : List Cond := [(Jvm.Cond.methodLinkNest "EnergyLedger" (9 : Nat) ({ cls := "EnergyLedger$Terms", name := "<init>", desc := "()V" } : Jvm.MethodName) "EnergyLedger"), (Jvm.Cond.methodLinkNest "EnergyLedger" (22 : Nat) ({ cls := "EnergyLedger$Slot", name := "<init>", desc := "()V" } : Jvm.MethodName) "EnergyLedger"), (Jvm.Cond.methodLinkNest "EnergyLedger$Slot" (11 : Nat) ({ cls := "EnergyLedger$Terms", name := "<init>", desc := "()V" } : Jvm.MethodName) "EnergyLedger"), (Jvm.Cond.methodLinkNest "EnergyLedger" (29 : Nat) ({ cls := "EnergyLedger$Closing", name := "<init>", desc := "()V" } : Jvm.MethodName) "EnergyLedger"), (Jvm.Cond.methodLinkNest "EnergyLedger$Closing" (11 : Nat) ({ cls := "EnergyLedger$Side", name := "<init>", desc := "()V" } : Jvm.MethodName) "EnergyLedger"), (Jvm.Cond.methodLinkNest "EnergyLedger$Slot" (28 : Nat) ({ cls := "EnergyLedger", name := "at", desc := "([II)I" } : Jvm.MethodName) "EnergyLedger"), (Jvm.Cond.methodLinkNest "EnergyLedger$Slot" (32 : Nat) ({ cls := "EnergyLedger", name := "put", desc := "([III)V" } : Jvm.MethodName) "EnergyLedger"), (Jvm.Cond.methodLinkNest "EnergyLedger$Terms" (34 : Nat) ({ cls := "EnergyLedger", name := "at", desc := "([II)I" } : Jvm.MethodName) "EnergyLedger"), (Jvm.Cond.methodLinkNest "EnergyLedger$Terms" (38 : Nat) ({ cls := "EnergyLedger", name := "put", desc := "([III)V" } : Jvm.MethodName) "EnergyLedger"), (Jvm.Cond.methodLinkNest "EnergyLedger$Closing" (40 : Nat) ({ cls := "EnergyLedger", name := "at", desc := "([II)I" } : Jvm.MethodName) "EnergyLedger"), (Jvm.Cond.methodLinkNest "EnergyLedger$Side" (22 : Nat) ({ cls := "EnergyLedger", name := "put", desc := "([III)V" } : Jvm.MethodName) "EnergyLedger"), (Jvm.Cond.methodLinkNest "EnergyLedger$Side" (18 : Nat) ({ cls := "EnergyLedger", name := "at", desc := "([II)I" } : Jvm.MethodName) "EnergyLedger")]
theorem zN_form : ∀ w ∈ zN, (∃ a i x h, w = Cond.methodLinkNest a i x h) ∨ (∃ a i b n d h, w = Cond.fieldLinkNest a i b n d h) := by
  unfold zN
  simp only [List.mem_cons, List.not_mem_nil, or_false, forall_eq_or_imp, forall_eq]
  repeat' apply And.intro
  all_goals first | exact Or.inl ⟨_, _, _, _, rfl⟩ | exact Or.inr ⟨_, _, _, _, _, _, rfl⟩
/-- what stands of the tables at every call -/
def zK (D : va_G) (k4 : Nat → ClassId) (U : State) : Prop := va_K D vwCl [(k4 0, .int), (k4 1, .long), (k4 2, .int), (k4 3, .object "EnergyLedger$Slot")] U ∧ (∀ w ∈ zN, va_Nw w U) ∧ va_AO "EnergyLedger$Slot" U
theorem zK.moved {D : va_G} {k4 : Nat → ClassId} {s U : State} (hW : s.WarmedH U.vm) (h : zK D k4 s) : zK D k4 U := by
  refine ⟨va_K.moved hW.alike h.1, fun w hw => ?_, h.2.2.moved hW.alike⟩
  rcases zN_form w hw with ⟨a, i, x, h9, rfl⟩ | ⟨a, i, b, n, d, h9, rfl⟩
  · exact va_Nw.warmM hW (h.2.1 _ hw)
  · exact va_Nw.warmF hW (h.2.1 _ hw)
theorem zK.same {D : va_G} {k4 : Nat → ClassId} {s U : State} (hv : s.vm = U.vm) (h : zK D k4 s) : zK D k4 U := by
  refine ⟨va_K.moved (by rw [← hv]; exact Vm.Alike.refl s.vm) h.1, fun w hw => ?_, h.2.2.moved (by rw [← hv]; exact Vm.Alike.refl s.vm)⟩
  rcases zN_form w hw with ⟨a, i, x, h9, rfl⟩ | ⟨a, i, b, n, d, h9, rfl⟩
  · exact va_Nw.same rfl hv (h.2.1 _ hw)
  · exact va_Nw.same rfl hv (h.2.1 _ hw)
/-- a call's start: the world ws, nothing else known -/
def zPre (D : va_G) (k4 : Nat → ClassId) (ws : va_W) (sz : Nat) (U : State) : Prop := U.heap.size = sz ∧ va_P D vwCl ws U.heap ∧ zK D k4 U ∧ va_D (fun _ => True) ws
/-- a call's end: value v and world w' -/
def zQ (D : va_G) (ws : va_W) (A : Nat → Prop) (Qv : Option Value → va_W → Prop) : Array Value → State → Outcome → State → Prop := fun _ st oc t =>
  (∃ (v : Option Value) (w' : va_W), oc = .returned v ∧ Qv v w' ∧ va_P D vwCl w' t.heap ∧ va_D A w' ∧ ∃ x, w'.map Prod.fst = ws.map Prod.fst ++ x) ∧ va_F A st t
/-- the contract of a method: from the world ws it returns v with a world w' and Qv v w' -/
def zC (l : Launch) (y : MethodName) (wds : List Cond) (rm : Room) (D : va_G) (k4 : Nat → ClassId) (av : List Value) (ws : va_W) (mc ms : Nat) (Qv : Option Value → va_W → Prop) : Prop :=
  ∀ sz : Nat, Met l y wds rm (va_Pc av (zPre D k4 ws sz)) (zQ D ws (va_A ws sz) Qv) mc ms (va_A ws sz)
theorem zPre_blind {D : va_G} {k4 : Nat → ClassId} {ws : va_W} {sz : Nat} {av : List Value} : FrameBlind (va_Pc av (zPre D k4 ws sz)) := by
  intro a U g mk q
  obtain ⟨q0, q1, q2, q3, q4⟩ := q
  exact ⟨q0, q1, q2, zK.same (s := U) (U := U.calling g mk a) rfl q3, q4⟩
/-! worlds: places of a list replaced by a callee's cells -/
def zput : List Nat → va_W → va_W → va_W
  | [] => fun ws w => match w with
    | [] => ws
    | q :: w => ws ++ (q :: w)
  | i :: is => fun ws w => match w with
    | [] => ws
    | q :: w => zput is (ws.set i q) w
theorem va_D.nodup {A : Nat → Prop} {ws : va_W} (h : va_D A ws) : (ws.map Prod.fst).Nodup := by
  refine List.pairwise_iff_getElem.mpr fun i j hi hj hij e => ?_
  have hi' : i < ws.length := by simpa using hi
  have hj' : j < ws.length := by simpa using hj
  have e1 : ws[i]? = some ws[i] := List.getElem?_eq_getElem hi'
  have e2 : ws[j]? = some ws[j] := List.getElem?_eq_getElem hj'
  have h9 : (ws[i]).1 = (ws[j]).1 := by simpa using e
  have := h.1 i j _ _ e1 e2 h9
  omega
theorem va_D.of_nodup {A : Nat → Prop} {ws : va_W} (h : (ws.map Prod.fst).Nodup) (hA : ∀ q ∈ ws, A q.1) : va_D A ws := by
  have h' := List.pairwise_iff_getElem.mp h
  refine ⟨fun i j p q hp hq e => ?_, fun k q hq => hA q (List.mem_of_getElem? hq)⟩
  obtain ⟨hi, e1⟩ := List.getElem?_eq_some_iff.mp hp
  obtain ⟨hj, e2⟩ := List.getElem?_eq_some_iff.mp hq
  rcases Nat.lt_trichotomy i j with g | g | g
  · exact absurd (by rw [List.getElem_map, List.getElem_map, e1, e2]; exact e) (h' i j (by simpa using hi) (by simpa using hj) g)
  · exact g
  · exact absurd (by rw [List.getElem_map, List.getElem_map, e1, e2]; exact e.symm) (h' j i (by simpa using hj) (by simpa using hi) g)
theorem va_P.mem {D : va_G} {cl : List vw_C} {ws : va_W} {H : Heap} (h : va_P D cl ws H) {q : Nat × va_E} (hq : q ∈ ws) : va_at D cl q H := by
  obtain ⟨k, hk⟩ := List.getElem?_of_mem hq
  exact h k q hk
theorem va_P.of_mem {D : va_G} {cl : List vw_C} {ws : va_W} {H : Heap} (h : ∀ q ∈ ws, va_at D cl q H) : va_P D cl ws H := fun k q hk => h q (List.mem_of_getElem? hk)
theorem va_P.perm {D : va_G} {cl : List vw_C} {ws ws' : va_W} {H : Heap} (h : va_P D cl ws H) (p : ws.Perm ws') : va_P D cl ws' H := va_P.of_mem fun q hq => h.mem (p.mem_iff.mpr hq)
theorem va_D.perm {A : Nat → Prop} {ws ws' : va_W} (h : va_D A ws) (p : ws.Perm ws') : va_D A ws' := va_D.of_nodup ((p.map Prod.fst).nodup_iff.mp h.nodup) fun q hq => by
  obtain ⟨k, hk⟩ := List.getElem?_of_mem (p.mem_iff.mpr hq)
  exact h.2 k q hk
theorem va_D.memA {A : Nat → Prop} {ws : va_W} (h : va_D A ws) {q : Nat × va_E} (hq : q ∈ ws) : A q.1 := by
  obtain ⟨k, hk⟩ := List.getElem?_of_mem hq
  exact h.2 k q hk
/-- addresses of a world with places replaced -/
theorem zput_fst : ∀ (is : List Nat) (ws w wc : va_W) (x : List Nat), is.map (fun i => ws[i]?) = wc.map some → is.Nodup → w.map Prod.fst = wc.map Prod.fst ++ x → (zput is ws w).map Prod.fst = ws.map Prod.fst ++ x
  | [], ws, w, wc, x, h1, _, h3 => by
    cases wc with
    | nil =>
      cases w with
      | nil => simp at h3; subst h3; simp [zput]
      | cons q w =>
        have h3 : (q :: w).map Prod.fst = x := by simpa using h3
        show (ws ++ (q :: w)).map Prod.fst = _
        rw [List.map_append, h3]
    | cons a b => simp at h1
  | i :: is, ws, w, wc, x, h1, h2, h3 => by
    cases wc with
    | nil => simp at h1
    | cons a b =>
      cases w with
      | nil => simp at h3
      | cons q w =>
        simp only [List.map_cons, List.cons.injEq] at h1
        simp only [List.map_cons, List.cons_append, List.cons.injEq] at h3
        obtain ⟨hi, hr⟩ := h1
        obtain ⟨hq, hw⟩ := h3
        have hn := List.nodup_cons.mp h2
        show (zput is (ws.set i q) w).map Prod.fst = _
        have hset : (ws.set i q).map Prod.fst = ws.map Prod.fst := by
          apply List.ext_getElem?
          intro k
          rw [List.getElem?_map, List.getElem?_map]
          by_cases hk : k = i
          · subst hk
            rw [List.getElem?_set_self (List.getElem?_eq_some_iff.mp hi).1, hi]
            simp [hq]
          · rw [List.getElem?_set_ne (Ne.symm hk)]
        rw [← hset]
        refine zput_fst is (ws.set i q) w b x ?_ hn.2 hw
        rw [← hr]
        apply List.map_congr_left
        intro k hk
        exact List.getElem?_set_ne (fun e => hn.1 (by rw [e]; exact hk))
/-- what is in it: the callee's cells, and the old ones at other places -/
theorem zput_mem : ∀ (is : List Nat) (ws w : va_W) (q : Nat × va_E), q ∈ zput is ws w → q ∈ w ∨ ∃ k, k ∉ is ∧ ws[k]? = some q ∨ (w.length < is.length)
  | [], ws, [], q, h => by
    obtain ⟨k, hk⟩ := List.getElem?_of_mem (show q ∈ ws from h)
    exact Or.inr ⟨k, Or.inl ⟨List.not_mem_nil, hk⟩⟩
  | [], ws, p :: w, q, h => by
    have h : q ∈ ws ++ (p :: w) := h
    rcases List.mem_append.mp h with h | h
    · obtain ⟨k, hk⟩ := List.getElem?_of_mem h
      exact Or.inr ⟨k, Or.inl ⟨List.not_mem_nil, hk⟩⟩
    · exact Or.inl h
  | i :: is, ws, [], q, h => Or.inr ⟨0, Or.inr (by simp)⟩
  | i :: is, ws, p :: w, q, h => by
    rcases zput_mem is (ws.set i p) w q h with h | ⟨k, ⟨h1, h2⟩ | h2⟩
    · exact Or.inl (List.mem_cons_of_mem _ h)
    · by_cases hk : k = i
      · subst hk
        have hl : k < (ws.set k p).length := (List.getElem?_eq_some_iff.mp h2).1
        rw [List.getElem?_set_self (by simpa using hl)] at h2
        cases h2
        exact Or.inl List.mem_cons_self
      · rw [List.getElem?_set_ne (Ne.symm hk)] at h2
        exact Or.inr ⟨k, Or.inl ⟨by simp [hk, h1], h2⟩⟩
    · exact Or.inr ⟨0, Or.inr (by simp; omega)⟩
theorem zput_join {A0 : Nat → Prop} {D : va_G} {ws wc w : va_W} {H H1 : Heap} {is : List Nat} {x : List Nat} (hP : va_P D vwCl ws H) (hD : va_D A0 ws) (hC : is.map (fun i => ws[i]?) = wc.map some) (hn : is.Nodup)
    (hk : ∀ q : Nat, q < H.size → ¬ va_A wc H.size q → H1[q]? = H[q]?) (hF : ∀ q, va_A wc H.size q → A0 q) (hP1 : va_P D vwCl w H1) (hD1 : va_D (va_A wc H.size) w) (hx : w.map Prod.fst = wc.map Prod.fst ++ x) :
    va_P D vwCl (zput is ws w) H1 ∧ va_D A0 (zput is ws w) := by
  have hlen : is.length ≤ w.length := by
    have h1 := congrArg List.length hx
    have h2 := congrArg List.length hC
    simp at h1 h2
    omega
  have apart : ∀ (k : Nat) (q : Nat × va_E), k ∉ is → ws[k]? = some q → q.1 < H.size ∧ ¬ va_A wc H.size q.1 := by
    intro k q hkn hq
    have hl := (hP k q hq).lt
    refine ⟨hl, fun h => ?_⟩
    rcases h with ⟨k2, e, h⟩ | h
    · have h3 : (is.map (fun i => ws[i]?))[k2]? = some (some (q.1, e)) := by rw [hC, List.getElem?_map, h]; rfl
      rw [List.getElem?_map] at h3
      cases hi : is[k2]? with
      | none => rw [hi] at h3; cases h3
      | some i =>
        rw [hi] at h3
        have h4 : ws[i]? = some (q.1, e) := Option.some.inj h3
        have hki := hD.1 k i q (q.1, e) hq h4 rfl
        subst hki
        exact hkn (List.mem_of_getElem? hi)
    · omega
  refine ⟨va_P.of_mem fun q hq => ?_, va_D.of_nodup ?_ fun q hq => ?_⟩
  · rcases zput_mem is ws w q hq with h | ⟨k, ⟨h1, h2⟩ | h2⟩
    · exact hP1.mem h
    · obtain ⟨g1, g2⟩ := apart k q h1 h2
      exact (hP k q h2).kept (hk q.1 g1 g2)
    · omega
  · rw [zput_fst is ws w wc x hC hn hx]
    have n1 := hD1.nodup
    rw [hx] at n1
    have n2 := List.nodup_append.mp n1
    refine List.nodup_append.mpr ⟨hD.nodup, n2.2.1, fun a ha b hb e => ?_⟩
    subst e
    obtain ⟨q, hq, rfl⟩ := List.mem_map.mp ha
    obtain ⟨k, hk9⟩ := List.getElem?_of_mem hq
    have hl := (hP k q hk9).lt
    have hbw : q.1 ∈ w.map Prod.fst := by rw [hx]; exact List.mem_append_right _ hb
    obtain ⟨r, hr, hr1⟩ := List.mem_map.mp hbw
    have hA9 := hD1.memA hr
    rw [hr1] at hA9
    rcases hA9 with ⟨k2, e, h⟩ | h
    · refine n2.2.2 q.1 ?_ q.1 hb rfl
      exact List.mem_map.mpr ⟨(q.1, e), List.mem_of_getElem? h, rfl⟩
    · omega
  · rcases zput_mem is ws w q hq with h | ⟨k, ⟨h1, h2⟩ | h2⟩
    · exact hF _ (hD1.memA h)
    · exact hD.2 k q h2
    · omega
