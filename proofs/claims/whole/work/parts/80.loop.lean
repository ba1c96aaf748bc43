/-! the law's loop -/
theorem and31 (x : Int32) : ∃ c : Nat, c < 32 ∧ x &&& iI 31 = iI ((c : Nat) : Int) := by
  refine ⟨(x &&& iI 31).toBitVec.toNat, ?_, ?_⟩
  · rw [Int32.toBitVec_and, BitVec.toNat_and]
    have h : (iI 31).toBitVec.toNat = 31 := by decide
    rw [h]
    exact Nat.lt_succ_of_le Nat.and_le_right
  · apply Int32.toBitVec_inj.mp
    show _ = BitVec.ofInt 32 _
    rw [BitVec.ofInt_natCast, BitVec.ofNat_toNat, BitVec.setWidth_eq]
theorem iI_len (L : Nat) : Int32.ofNat L = iI ((L : Nat) : Int) := by
  apply Int32.toBitVec_inj.mp
  show BitVec.ofNat 32 L = BitVec.ofInt 32 _
  rw [BitVec.ofInt_natCast]
