/-! what the tables and the start give -/
theorem st_N : ∀ w ∈ zN, w ∈ lw_tbl := by decide +kernel
theorem st_B : ∀ w ∈ zB, w ∈ lw_tbl := by decide +kernel
theorem st_S : ∀ q ∈ zStr, Cond.stringRef RX4 q.1 q.2 ∈ lw_tbl := by decide +kernel
theorem st_AO : Cond.arrayOver (.object "EnergyLedger$Slot") ∈ lw_tbl := by decide +kernel
theorem st_CL : Cond.castable "[I" "java/lang/Cloneable" ∈ lw_tbl := by decide +kernel
theorem st_E : ∀ q ∈ zStr, Cond.exactly (.string RX4 q.1) "java/lang/String" ∈ flatC (Jvm.Cond.and given_1 narrow_1) := by decide +kernel
theorem st_Nc : ∀ q ∈ zNcP, Cond.not (.castable q.1 q.2) ∈ flatC (Jvm.Cond.and given_1 narrow_1) := by decide +kernel
theorem st_U : Cond.isRef (.static Bundle.tN "UNASSIGNED_STACK" Bundle.steD) ∈ flatC (Jvm.Cond.and given_1 narrow_1) := by decide +kernel
theorem st_U2 : Cond.isRef (.static Bundle.tN "SUPPRESSED_SENTINEL" Bundle.listD) ∈ flatC (Jvm.Cond.and given_1 narrow_1) := by decide +kernel
theorem st_L : Cond.laysStatic Bundle.tN "UNASSIGNED_STACK" Bundle.steD ∈ lw_tbl := by decide +kernel
theorem st_L2 : Cond.laysStatic Bundle.tN "SUPPRESSED_SENTINEL" Bundle.listD ∈ lw_tbl := by decide +kernel
theorem st_I : Cond.initialized Bundle.tN ∈ lw_tbl := by decide +kernel
theorem zT_tbl : ∀ w ∈ zT, w ∈ lw_tbl := fun w h => (zT_good w h).1
section ZST
variable {s : State} {args : Array Value}
theorem st_arr (ty : FieldType) (hty : ty = .int ∨ ty = .long ∨ ty = .boolean) (h : (Cond.arrayClass ty).before args s = true) : ∃ cA : ClassId, ArrOfT s cA ty ∧ va_RA s cA ty := by
  obtain ⟨cA, kA, comp, h1, h2, h3⟩ := Cond.arrayClass_spec h
  refine ⟨cA, fun n z => ⟨fun k h => ?_, kA, h2, comp, h3⟩, ?_⟩
  · cases h
  · rcases hty with rfl | rfl | rfl <;> exact h1
theorem st_obj (h : va_AO "EnergyLedger$Slot" s) : ∃ cA : ClassId, ArrOfT s cA (.object "EnergyLedger$Slot") ∧ va_RA s cA (.object "EnergyLedger$Slot") := by
  obtain ⟨comp, cA, kA, h1, h2, h3, h4, h5⟩ := Cond.arrayOver_spec (va_AO.use (A := #[]) h)
  exact ⟨cA, fun n z => ⟨fun k h => (by cases h), kA, h3, comp, h4⟩, kA, comp, h3, h4, h1, h5⟩
theorem st_K (hts : ∀ w ∈ lw_tbl, w.before args s = true) : ∃ (D : va_G) (k4 : Nat → ClassId), zK D k4 s := by
  have hz : ∀ w ∈ zT, w.before args s = true := fun w h => hts w (zT_tbl w h)
  obtain ⟨c0, i0, K0⟩ := u_known (C := RX0) (T := TX0) (N := 2) (n := 2) hz zT_0 (hz _ (zT_A zw_23))
  obtain ⟨c1, i1, K1⟩ := u_known (C := RX1) (T := TX1) (N := 3) (n := 3) hz zT_1 (hz _ (zT_A zw_51))
  obtain ⟨c2, i2, K2⟩ := u_known (C := RX2) (T := TX2) (N := 6) (n := 6) hz zT_2 (hz _ (zT_A zw_19))
  obtain ⟨c3, i3, K3⟩ := u_known (C := RX3) (T := TX3) (N := 9) (n := 9) hz zT_3 (hz _ (zT_A zw_14))
  obtain ⟨c4, i4, K4⟩ := u_known (C := RX4) (T := TX4) (N := 14) (n := 14) hz zT_4 (hz _ (zT_A zw_1))
  obtain ⟨c5, i5, K5⟩ := u_known (C := RX5) (T := TX5) (N := 19) (n := 19) hz zT_5 (hz _ (zT_A zw_4))
  have hAO : va_AO "EnergyLedger$Slot" s := va_AO.of (hts _ st_AO)
  obtain ⟨a0, A0, B0⟩ := st_arr .int (Or.inl rfl) (hz _ (zT_A zw_31))
  obtain ⟨a1, A1, B1⟩ := st_arr .long (Or.inr (Or.inl rfl)) (hz _ (zT_A zw_6))
  obtain ⟨a2, A2, B2⟩ := st_arr .boolean (Or.inr (Or.inr rfl)) (hz _ (zT_A zw_450))
  obtain ⟨a3, A3, B3⟩ := st_obj hAO
  refine ⟨(fun k => match k with | 0 => c0 | 1 => c1 | 2 => c2 | 3 => c3 | 4 => c4 | _ => c5, fun k => match k with | 0 => i0 | 1 => i1 | 2 => i2 | 3 => i3 | 4 => i4 | _ => i5), (fun k => match k with | 0 => a0 | 1 => a1 | 2 => a2 | _ => a3), ⟨fun k q hq => ?_, fun k q hq => ?_⟩, fun w hw => ?_, hAO, ?_⟩
  · match k, hq with
    | 0, hq => cases hq; exact K0
    | 1, hq => cases hq; exact K1
    | 2, hq => cases hq; exact K2
    | 3, hq => cases hq; exact K3
    | 4, hq => cases hq; exact K4
    | 5, hq => cases hq; exact K5
    | k + 6, hq => simp [vwCl] at hq
  · match k, hq with
    | 0, hq => cases hq; exact ⟨A0, B0⟩
    | 1, hq => cases hq; exact ⟨A1, B1⟩
    | 2, hq => cases hq; exact ⟨A2, B2⟩
    | 3, hq => cases hq; exact ⟨A3, B3⟩
    | k + 4, hq => simp at hq
  · rcases zN_form w hw with ⟨a, i, x, h9, rfl⟩ | ⟨a, i, b, n, d, h9, rfl⟩
    · exact va_Nw.of rfl (hts _ (st_N _ hw))
    · exact va_Nw.of rfl (hts _ (st_N _ hw))
  · exact va_Nw.of rfl (hts _ st_CL)
theorem st_X (hts : ∀ w ∈ lw_tbl, w.before args s = true) (hgv : (Jvm.Cond.and given_1 narrow_1).before args s = true) {A : Nat → Prop} (hA : ∀ a : Nat, a < s.heap.size → ¬ A a) : zEL s A := by
  have hs := flat_of_before _ hgv
  refine ⟨⟨fun w hw => ?_, fun q hq => ?_⟩, ⟨vx_Zqof (hts _ st_L) (hts _ st_I) (hs _ st_U) hA, vx_Zqof (hts _ st_L2) (hts _ st_I) (hs _ st_U2) hA⟩, fun q hq => va_Nc.of (hs _ (st_Nc q hq))⟩
  · have h9 := hts w (st_B w hw)
    simp only [zB, List.mem_cons, List.not_mem_nil, or_false] at hw
    rcases hw with rfl | rfl | rfl | rfl | rfl | rfl <;> exact va_Nw.of rfl h9
  · obtain ⟨a, c, cell, k, h1, h2⟩ := Cond.exactly_spec (hs _ (st_E q hq))
    exact ⟨a, vk_R.of (hts _ (st_S q hq)) h1⟩
end ZST
