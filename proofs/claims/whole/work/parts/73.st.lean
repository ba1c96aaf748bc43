/-- the world of the law's loop -/
noncomputable def lW (k4 : Nat → ClassId) (lo lnow lsl lcl lba ldu nsh nrk h1 r1 q1 h2 r2 q2 : Nat) (ta : Nat → Nat) (sa : Nat → Nat → Nat) (mo mnw mte mge mus mco mfl mba mdu ao : Nat) (n p st : Nat) (cc bc pot gr bk : Int) (nw bal due : Nat → Int) (S1 S2 : sS) (tx : Nat → Nat → Int) (sg : Nat → Nat → Nat → Int) (th btw bhd : Int) (NW TE GE US CO FL BA DU : Nat → Int) (O : Nat → Int) : va_W := ((mo, .inr (5, [.int (iI (th)), .int (iI (((n : Nat) : Int))), .ref mnw, .ref mte, .ref mge, .ref mus, .int (iI (((p : Nat) : Int))), .int (iI (((st : Nat) : Int))), .int (iI (cc)), .int (iI (bc)), .ref mco, .ref mfl, .ref mba, .ref mdu, .long (lI (pot)), .long (lI (gr)), .long (lI (bk)), .int (iI (btw)), .int (iI (bhd))])) :: (mnw, .inl (k4 0, 19, .inl (fun i9 => iI (NW i9)))) :: (mte, .inl (k4 0, 912, .inl (fun i9 => iI (TE i9)))) :: (mge, .inl (k4 0, 288, .inl (fun i9 => iI (GE i9)))) :: (mus, .inl (k4 0, 288, .inl (fun i9 => iI (US i9)))) :: (mco, .inl (k4 0, 48, .inl (fun i9 => iI (CO i9)))) :: (mfl, .inl (k4 0, 2304, .inl (fun i9 => iI (FL i9)))) :: (mba, .inl (k4 1, 6, .inr (.inl (fun i9 => lI (BA i9))))) :: (mdu, .inl (k4 1, 6, .inr (.inl (fun i9 => lI (DU i9))))) :: (ao, .inl (k4 1, 1, .inr (.inl (fun i9 => lI (O i9))))) :: (xW k4 lo lnow lsl lcl lba ldu nsh nrk h1 r1 q1 h2 r2 q2 ta sa n p st cc bc pot gr bk nw bal due S1 S2 tx sg))
def ST (n p st u : Nat) (cc bc : Int) (nw bal due : Nat → Int) (S1 S2 : sS) (tx : Nat → Nat → Int) (sg : Nat → Nat → Nat → Int) (NW TE GE US CO FL BA DU : Nat → Int) (cl9 sl9 : Nat) : Prop :=
  INV n p st bc nw bal due S1 S2 tx sg NW TE GE US CO FL BA DU ∧ (0 ≤ cc ∧ cc ≤ ((u : Nat) : Int)) ∧ rcN GE US 48 ≤ u ∧ cl9 ≤ 400 + BB p u ∧ sl9 ≤ 9000 + 11 * BB p u
section STS
variable {n p st u n' st' : Nat} {cc bc cc' bc' : Int} {nw bal due nw' bal' due' : Nat → Int} {S1 S2 S1' S2' : sS} {tx tx' : Nat → Nat → Int} {sg sg' : Nat → Nat → Nat → Int} {NW TE GE US CO FL BA DU NW' TE' GE' US' CO' FL' BA' DU' : Nat → Int} {cl9 sl9 : Nat}
theorem ST.next (h : ST n p st u cc bc nw bal due S1 S2 tx sg NW TE GE US CO FL BA DU cl9 sl9) (hI : INV n' p st' bc' nw' bal' due' S1' S2' tx' sg' NW' TE' GE' US' CO' FL' BA' DU') (hcc : 0 ≤ cc' ∧ cc' ≤ ((u : Nat) : Int) + 1) (hR : rcN GE' US' 48 ≤ u + 1) {mc ms : Nat} (hc : mc ≤ 18 * max p 10 + 2 * min (u + 1) 288) (hs : ms ≤ 11 * (18 * max p 10 + 2 * min (u + 1) 288)) :
    ST n' p st' (u + 1) cc' bc' nw' bal' due' S1' S2' tx' sg' NW' TE' GE' US' CO' FL' BA' DU' (cl9 + mc) (sl9 + ms) := by
  obtain ⟨h1, h2, h3, h4, h5⟩ := h
  refine ⟨hI, by omega, hR, ?_, ?_⟩
  · rw [BB_u]; omega
  · rw [BB_u]; omega
theorem ST.closed (h : ST n p st u cc bc nw bal due S1 S2 tx sg NW TE GE US CO FL BA DU cl9 sl9) (hI : INV n (p + 1) st' bc' nw' bal' due' S1' S2' tx' sg' NW' TE' GE US CO' FL' BA' DU') {mc ms : Nat} (hc : mc ≤ 29) (hs : ms ≤ 11 * 29) :
    ST n (p + 1) st' u cc bc' nw' bal' due' S1' S2' tx' sg' NW' TE' GE US CO' FL' BA' DU' (cl9 + mc) (sl9 + ms) := by
  obtain ⟨h1, h2, h3, h4, h5⟩ := h
  have h6 := BB_p (p := p) (u := u)
  exact ⟨hI, h2, h3, by omega, by omega⟩
theorem room_c : 600500 ≤ room_1.cells := Nat.le_of_ble_eq_true rfl
theorem room_s : 6700000 ≤ room_1.slots := Nat.le_of_ble_eq_true rfl
theorem ST.room (h : ST n p st u cc bc nw bal due S1 S2 tx sg NW TE GE US CO FL BA DU cl9 sl9) (h5 : p + u ≤ 512) : cl9 ≤ room_1.cells ∧ sl9 ≤ room_1.slots := by
  have h6 := BB_max h.1.1.2.1 h5
  exact ⟨Nat.le_trans h.2.2.2.1 (Nat.le_trans (by omega) room_c), Nat.le_trans h.2.2.2.2 (Nat.le_trans (by omega) room_s)⟩
end STS
/-- what comes after a call of the script -/
def Nx (pp : Program) (l : Launch) (ee : Env) (ss : State) (mm : MethodId) (bl : List Frame) (me : Method) (co : Code) (AA : Nat → Prop) (Q9 : State → Prop) (D : va_G) (k4 : Nat → ClassId) (bs : Nat) (lo lnow lsl lcl lba ldu nsh nrk h1 r1 q1 h2 r2 q2 : Nat) (ta : Nat → Nat) (sa : Nat → Nat → Nat) (mo mnw mte mge mus mco mfl mba mdu ao : Nat) (i : Nat) : Prop :=
  ∀ {d0 : Drawn} {u : Nat} {n p st : Nat} {cc bc pot gr bk : Int} {nw bal due : Nat → Int} {S1 S2 : sS} {tx : Nat → Nat → Int} {sg : Nat → Nat → Nat → Int} {th btw bhd : Int} {NW TE GE US CO FL BA DU : Nat → Int} {O : Nat → Int} {H : Heap} {locs : List Loc} {ls : Array Slot} {cl9 sl9 : Nat}, ss.drawn.sameBut d0 lw_cs → ST n p st u cc bc nw bal due S1 S2 tx sg NW TE GE US CO FL BA DU cl9 sl9 → 5 * (p + u) ≤ i + 5 → zG D AA ss.heap (lW k4 lo lnow lsl lcl lba ldu nsh nrk h1 r1 q1 h2 r2 q2 ta sa mo mnw mte mge mus mco mfl mba mdu ao n p st cc bc pot gr bk nw bal due S1 S2 tx sg th btw bhd NW TE GE US CO FL BA DU O) H locs → lv_has ls 9 [(0, .ref bs), (1, .ref lo), (2, .ref mo), (3, .ref ao), (4, .int (iI (((i : Nat) : Int))))] → W pp l ee room_1 (ss.setDrawn d0) mm #[Value.ref bs] bl me co H locs cl9 sl9 Q9 (F0 mm 1502 ls [])
