theorem skE_not (T : Nat → Int32) (n : Nat) : ∀ f p : Nat, n - p < f → p ≤ n → skE T n f p < n → ¬ isB (T (skE T n f p))
  | 0, p, h, _, _ => absurd h (by omega)
  | f + 1, p, h, hp, hl => by
    rw [skE_step] at hl ⊢
    by_cases c : p < n ∧ isB (T p)
    · rw [if_pos c] at hl ⊢; exact skE_not T n f (p + 1) (by omega) (by omega) hl
    · rw [if_neg c] at hl ⊢
      by_cases d : noteB T n p
      · rw [if_pos d] at hl ⊢
        have := noteE_gt d
        have := noteE_le T n n p hp
        exact skE_not T n f _ (by omega) (by omega) hl
      · rw [if_neg d] at hl ⊢; exact fun q => c ⟨hl, q⟩
/-! The bytes that feed brings are the same. -/
theorem b255 : ∀ i : Nat, i < 32 → (255#32).getLsbD i = decide (i < 8) := by decide
theorem byte_and (y : Int32) : y.toInt8.toInt32 &&& 255 = y &&& 255 := by
  apply Int32.toBitVec_inj.mp
  rw [Int32.toBitVec_and, Int32.toBitVec_and]
  rw [Int8.toBitVec_toInt32, Int32.toBitVec_toInt8]
  show (BitVec.signExtend 32 (BitVec.signExtend 8 y.toBitVec)) &&& 255#32 = y.toBitVec &&& 255#32
  apply BitVec.eq_of_getLsbD_eq
  intro i hi
  rw [BitVec.getLsbD_and, BitVec.getLsbD_and, b255 i hi]
  by_cases c : i < 8
  · rw [decide_eq_true c, Bool.and_true, Bool.and_true, BitVec.getLsbD_signExtend, BitVec.getLsbD_signExtend]
    simp [c, hi]
  · rw [decide_eq_false c, Bool.and_false, Bool.and_false]
theorem shift_and (x : Int32) (s : Nat) (hs : s ≤ 24) : (BitVec.sshiftRight x.toBitVec s) &&& 255#32 = (x.toBitVec >>> s) &&& 255#32 := by
  apply BitVec.eq_of_getLsbD_eq
  intro i hi
  rw [BitVec.getLsbD_and, BitVec.getLsbD_and, b255 i hi]
  by_cases c : i < 8
  · rw [decide_eq_true c, Bool.and_true, Bool.and_true, BitVec.getLsbD_sshiftRight, BitVec.getLsbD_ushiftRight]
    have h1 : ¬ 32 ≤ i := by omega
    have h2 : s + i < 32 := by omega
    simp [h1, h2]
  · rw [decide_eq_false c, Bool.and_false, Bool.and_false]
theorem cByte_u (x : Int32) {s : Nat} (hs : s ≤ 24) : cByte x (nI s) &&& 255 = (x.toUInt32 >>> ((nI s).toUInt32 &&& Int32.toUInt32 31)).toInt32 &&& 255 := by
  have e1 : cByte x (nI s) = ((x >>> (nI s &&& 31)).toInt8.toInt32).toInt8.toInt32 := rfl
  rw [e1, byte_and, byte_and]
  apply Int32.toBitVec_inj.mp
  rw [Int32.toBitVec_and, Int32.toBitVec_and]
  have all : ∀ s : Nat, s < 25 → ((nI s &&& 31).toBitVec.smod 32).toNat = s ∧ (((nI s).toUInt32 &&& Int32.toUInt32 31).toBitVec.toNat % 32) = s := by decide +kernel
  have ha := all s (by omega)
  have l : (x >>> (nI s &&& 31)).toBitVec = BitVec.sshiftRight x.toBitVec s := by
    rw [Int32.toBitVec_shiftRight, BitVec.sshiftRight_eq', ha.1]
  have r : (x.toUInt32 >>> ((nI s).toUInt32 &&& Int32.toUInt32 31)).toInt32.toBitVec = x.toBitVec >>> s := by
    show (x.toUInt32 >>> ((nI s).toUInt32 &&& Int32.toUInt32 31)).toBitVec = _
    rw [UInt32.toBitVec_shiftRight]
    show x.toBitVec >>> (((nI s).toUInt32 &&& Int32.toUInt32 31).toBitVec % 32) = _
    rw [BitVec.ushiftRight_eq', show (((nI s).toUInt32 &&& Int32.toUInt32 31).toBitVec % 32).toNat = s from by rw [BitVec.toNat_umod]; exact ha.2]
  rw [l, r]
  exact shift_and x s hs
