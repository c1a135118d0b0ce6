/-! Both sides read the same tokens. -/
theorem lxC_letter : ∀ c : Nat, c < 128 → (lxC.getD c 0 = 2 ↔ (65 ≤ c ∧ c ≤ 90) ∨ (97 ≤ c ∧ c ≤ 122)) := by decide +kernel
theorem lxC_digit : ∀ c : Nat, c < 128 → (lxC.getD c 0 = 3 ↔ (48 ≤ c ∧ c ≤ 57)) := by decide +kernel
theorem lxC_quote : ∀ c : Nat, c < 128 → (lxC.getD c 0 = 4 ↔ c = 34) := by decide +kernel
theorem lxC_under : ∀ c : Nat, c < 128 → (lxC.getD c 0 = 30 ↔ c = 95) := by decide +kernel
/-- the kind of a byte, by its number -/
theorem cls_nat {c : Int32} (hf : fits .byte (.int c) = true) : (c.toInt < 0 ∧ cls c = 0) ∨ (0 ≤ c.toInt ∧ c.toInt ≤ 127 ∧ cls c = lxC.getD c.toInt.toNat 0) := by
  have hb := fits_byte' hf
  unfold cls
  by_cases h0 : c < 0
  · rw [if_pos h0]; rw [i_lt, i_c0] at h0; exact Or.inl ⟨h0, rfl⟩
  · rw [if_neg h0]; rw [i_lt, i_c0] at h0
    have hc := i_clamp (x := c) (by omega)
    refine Or.inr ⟨by omega, by omega, ?_⟩
    rw [show c.toNatClampNeg = c.toInt.toNat by omega]
section TS
variable {T R : Nat → Int32} {n : Nat}
theorem t_int (h : sameT T R n) {i : Nat} (hi : i < n) : (T i).toInt = if 0 ≤ (R i).toInt then (R i).toInt else (R i).toInt + 256 := by
  rw [h.1 i hi]; exact u8_int (h.2.1 i (by omega))
theorem isL_int {c : Int32} : isL c ↔ ((65 ≤ c.toInt ∧ c.toInt ≤ 90) ∨ (97 ≤ c.toInt ∧ c.toInt ≤ 122)) := by
  unfold isL; rw [i_le, i_le, i_le, i_le]; exact Iff.rfl
theorem isD_int {c : Int32} : isD c ↔ (48 ≤ c.toInt ∧ c.toInt ≤ 57) := by
  unfold isD; rw [i_le, i_le]; exact Iff.rfl
theorem same_kind (h : sameT T R n) {i : Nat} (hi : i < n) : (isL (T i) ↔ cls (R i) = 2) ∧ (isD (T i) ↔ cls (R i) = 3) ∧ (T i = 34 ↔ cls (R i) = 4) ∧ (T i = 95 ↔ cls (R i) = 30) := by
  have hf := h.2.1 i (by omega)
  have hb := fits_byte' hf
  have ht := t_int h hi
  rw [isL_int, isD_int, i_eq (x := T i) (y := 34), i_eq (x := T i) (y := 95), show (34 : Int32).toInt = 34 from rfl, show (95 : Int32).toInt = 95 from rfl]
  rcases cls_nat hf with ⟨h0, hc⟩ | ⟨h0, h1, hc⟩
  · rw [if_neg (by omega)] at ht
    rw [hc]
    have n2 : ¬ (0 : Int32) = 2 := by decide
    have n3 : ¬ (0 : Int32) = 3 := by decide
    have n4 : ¬ (0 : Int32) = 4 := by decide
    have n30 : ¬ (0 : Int32) = 30 := by decide
    exact ⟨⟨fun q => by omega, fun q => absurd q n2⟩, ⟨fun q => by omega, fun q => absurd q n3⟩, ⟨fun q => by omega, fun q => absurd q n4⟩, ⟨fun q => by omega, fun q => absurd q n30⟩⟩
  · rw [if_pos (by omega)] at ht
    rw [hc, lxC_letter _ (by omega), lxC_digit _ (by omega), lxC_quote _ (by omega), lxC_under _ (by omega), ht]
    omega
theorem same_part (h : sameT T R n) {i : Nat} (hi : i < n) : isN (rB T n i) ↔ isPart (cls (R i)) := by
  rw [rB_in hi]
  obtain ⟨a, b, c, d⟩ := same_kind h hi
  unfold isN isPart
  rw [a, b, d]
theorem name_same (h : sameT T R n) : ∀ (f i : Nat), nmE R n f i = nameE T n f i
  | 0, i => rfl
  | f + 1, i => by
    rw [nmE_step, nameE_step]
    by_cases c : i < n
    · by_cases d : isPart (cls (R i))
      · rw [if_pos ⟨c, d⟩, if_pos ((same_part h c).mpr d)]; exact name_same h f (i + 1)
      · rw [if_neg (fun q => d q.2), if_neg (fun q => d ((same_part h c).mp q))]
    · rw [if_neg (fun q => c q.1), if_neg (fun q => c (isN_lt q))]
theorem dig_same (h : sameT T R n) : ∀ (f i : Nat), dgE R n f i = digE T n f i
  | 0, i => rfl
  | f + 1, i => by
    rw [dgE_step, digE_step]
    by_cases c : i < n
    · have e : (¬ R i < 48 ∧ ¬ 57 < R i) ↔ isD (rB T n i) := by
        rw [rB_in c, isD_int, t_int h c, i_lt, i_lt, show (48 : Int32).toInt = 48 from rfl, show (57 : Int32).toInt = 57 from rfl]
        have hb := fits_byte' (h.2.1 i (by omega))
        by_cases g : 0 ≤ (R i).toInt
        · rw [if_pos g]; omega
        · rw [if_neg g]; omega
      by_cases d : isD (rB T n i)
      · rw [if_pos ⟨c, e.mpr d⟩, if_pos d]; exact dig_same h f (i + 1)
      · rw [if_neg (fun q => d (e.mp q.2)), if_neg d]
    · rw [if_neg (fun q => c q.1), if_neg (fun q => c (isD_lt q))]
theorem str_same (h : sameT T R n) : ∀ (f i : Nat), sgE R n f i = strE T n f i
  | 0, i => rfl
  | f + 1, i => by
    rw [sgE_step, strE_step]
    by_cases c : i < n
    · have e1 := same_eq h c (k := 34) (by decide) (by decide)
      have e2 : (R i &&& 255 < 32) ↔ T i ≤ 31 := by
        rw [← h.1 i c, i_lt, i_le, show (32 : Int32).toInt = 32 from rfl, show (31 : Int32).toInt = 31 from rfl]; omega
      by_cases d : ¬ T i = 34 ∧ ¬ T i ≤ 31
      · rw [if_pos ⟨c, fun q => d.2 (e2.mp q), fun q => d.1 (e1.mpr q)⟩, if_pos ⟨c, d⟩]; exact str_same h f (i + 1)
      · rw [if_neg (fun q => d ⟨fun g => q.2.2 (e1.mp g), fun g => q.2.1 (e2.mpr g)⟩), if_neg (fun q => d q.2)]
    · rw [if_neg (fun q => c q.1), if_neg (fun q => c q.1)]
end TS
