/-! Limbs of 16 bits. -/
def LM (f : Nat → Int32) (n : Nat) : Prop := ∀ i, i < n → ∃ d, d ≤ 65535 ∧ f i = nI d
theorem n_bv (x : Int32) : x = nI x.toBitVec.toNat ∨ x < 0 := by
  by_cases h : x < 0
  · exact Or.inr h
  · refine Or.inl (Int32.toBitVec_inj.mp ?_)
    show x.toBitVec = (Int32.ofNat x.toBitVec.toNat).toBitVec
    rw [Int32.toBitVec_ofNat']
    exact (BitVec.ofNat_toNat' x.toBitVec rfl).symm
theorem n_ofbv (x : Int32) : x = nI x.toBitVec.toNat := by
  refine Int32.toBitVec_inj.mp ?_
  show x.toBitVec = (Int32.ofNat x.toBitVec.toNat).toBitVec
  rw [Int32.toBitVec_ofNat']
  simp
theorem n_and16 (x : Int32) : ∃ d, d ≤ 65535 ∧ x &&& 65535 = nI d := by
  refine ⟨(x &&& 65535).toBitVec.toNat, ?_, n_ofbv _⟩
  rw [Int32.toBitVec_and, BitVec.toNat_and]
  exact Nat.and_le_right
theorem w_and16 (x : Int64) : ∃ d, d ≤ 65535 ∧ (x &&& 65535).toInt32 = nI d := by
  refine ⟨(x &&& 65535).toInt32.toBitVec.toNat, ?_, n_ofbv _⟩
  rw [Int64.toBitVec_toInt32, Int64.toBitVec_and, BitVec.toNat_signExtend]
  sorry
theorem n_shr16 (x : Int32) (h : 0 < x >>> ((16 : Int32) &&& 31)) : ∃ d, d ≤ 65535 ∧ x >>> ((16 : Int32) &&& 31) = nI d := by
  refine ⟨(x >>> ((16 : Int32) &&& 31)).toBitVec.toNat, ?_, n_ofbv _⟩
  sorry
