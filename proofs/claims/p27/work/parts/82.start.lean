/-! what the tables and the start give -/
theorem st_N : ∀ w ∈ zN, w ∈ lw_tbl := by decide +kernel
theorem st_AO : Cond.arrayOver (.object "EnergyLedger$Slot") ∈ lw_tbl := by decide +kernel
theorem zT_tbl : ∀ w ∈ zT, w ∈ lw_tbl := fun w h => (zT_good w h).1
section ZST
variable {s : State} {args : Array Value}
theorem st_arr (ty : FieldType) (hty : ty = .int ∨ ty = .long) (h : (Cond.arrayClass ty).before args s = true) : ∃ cA : ClassId, ArrOfT s cA ty ∧ va_RA s cA ty := by
  obtain ⟨cA, kA, comp, h1, h2, h3⟩ := Cond.arrayClass_spec h
  refine ⟨cA, fun n z => ⟨fun k h => ?_, kA, h2, comp, h3⟩, ?_⟩
  · cases h
  · rcases hty with rfl | rfl <;> exact h1
theorem st_obj (h : va_AO "EnergyLedger$Slot" s) : ∃ cA : ClassId, ArrOfT s cA (.object "EnergyLedger$Slot") ∧ va_RA s cA (.object "EnergyLedger$Slot") := by
  obtain ⟨comp, cA, kA, h1, h2, h3, h4, h5⟩ := Cond.arrayOver_spec (va_AO.use (A := #[]) h)
  exact ⟨cA, fun n z => ⟨fun k h => (by cases h), kA, h3, comp, h4⟩, kA, comp, h3, h4, h1, h5⟩
theorem st_K (hts : ∀ w ∈ lw_tbl, w.before args s = true) : ∃ (D : va_G) (k4 : Nat → ClassId), zK D k4 s := by
  have hz : ∀ w ∈ zT, w.before args s = true := fun w h => hts w (zT_tbl w h)
  obtain ⟨c0, i0, K0⟩ := u_known (C := RX0) (T := TX0) (N := 2) (n := 2) hz zT_0 (hz _ (zT_A zw_24))
  obtain ⟨c1, i1, K1⟩ := u_known (C := RX1) (T := TX1) (N := 3) (n := 3) hz zT_1 (hz _ (zT_A zw_52))
  obtain ⟨c2, i2, K2⟩ := u_known (C := RX2) (T := TX2) (N := 6) (n := 6) hz zT_2 (hz _ (zT_A zw_20))
  obtain ⟨c3, i3, K3⟩ := u_known (C := RX3) (T := TX3) (N := 9) (n := 9) hz zT_3 (hz _ (zT_A zw_15))
  obtain ⟨c4, i4, K4⟩ := u_known (C := RX4) (T := TX4) (N := 14) (n := 14) hz zT_4 (hz _ (zT_A zw_1))
  have hAO : va_AO "EnergyLedger$Slot" s := va_AO.of (hts _ st_AO)
  obtain ⟨a0, A0, B0⟩ := st_arr .int (Or.inl rfl) (hz _ (zT_A zw_3))
  obtain ⟨a1, A1, B1⟩ := st_arr .long (Or.inr rfl) (hz _ (zT_A zw_27))
  obtain ⟨a3, A3, B3⟩ := st_obj hAO
  refine ⟨(fun k => match k with | 0 => c0 | 1 => c1 | 2 => c2 | 3 => c3 | _ => c4, fun k => match k with | 0 => i0 | 1 => i1 | 2 => i2 | 3 => i3 | _ => i4), (fun k => match k with | 0 => a0 | 1 => a1 | 2 => a0 | _ => a3), ⟨fun k q hq => ?_, fun k q hq => ?_⟩, fun w hw => ?_, hAO⟩
  · match k, hq with
    | 0, hq => cases hq; exact K0
    | 1, hq => cases hq; exact K1
    | 2, hq => cases hq; exact K2
    | 3, hq => cases hq; exact K3
    | 4, hq => cases hq; exact K4
    | k + 5, hq => simp [vwCl] at hq
  · match k, hq with
    | 0, hq => cases hq; exact ⟨A0, B0⟩
    | 1, hq => cases hq; exact ⟨A1, B1⟩
    | 2, hq => cases hq; exact ⟨A0, B0⟩
    | 3, hq => cases hq; exact ⟨A3, B3⟩
    | k + 4, hq => simp at hq
  · rcases zN_form w hw with ⟨a, i, x, h9, rfl⟩ | ⟨a, i, b, n, d, h9, rfl⟩
    · exact va_Nw.of rfl (hts _ (st_N _ hw))
    · exact va_Nw.of rfl (hts _ (st_N _ hw))
end ZST
theorem sumN_0 : ∀ n : Nat, sumN (fun _ => 0) n = 0
  | 0 => rfl
  | n + 1 => by
    show sumN (fun _ => 0) n + 0 = 0
    rw [sumN_0 n]; rfl
theorem LH_00 {n : Nat} {N9 T9 EF CP : Nat → Int} (hn : 2 ≤ n ∧ n ≤ 6) (hN : tOK N9) (hT : T9 15 = N9 4 ∧ T9 17 = N9 6) : LH n 0 (min 0 (N9 4)) 0 0 N9 (fun _ => 0) T9 EF CP (0, fun _ => 0, fun _ => 0) (0, fun _ => 0, fun _ => 0) x00 (fun _ => x00) := by
  have h4 := hN.2.2.2.2.1
  refine ⟨⟨⟨hn.1, by omega⟩, ⟨hn.2, by omega, by omega, hN, by omega, sOK_0, sOK_0, slOK_0, fun _ _ => slOK_0⟩, hT, fun _ _ _ _ _ => ⟨rfl, rfl⟩, fun s hs => absurd hs (by omega), ?_⟩, ?_, fun s hs => absurd hs (by omega)⟩
  · rw [sumN_0]; rfl
  · show min 0 (N9 4) = 0
    omega
