/-! Between statements again (reference): from a begin to the next. -/
section IVB
variable {T : Nat → Nat → Int32} {FN : Nat → Nat → Prop} {S : Nat → Nat → Nat → Nat → Prop} {t w XC : Nat} {σ1 σ2 r1 r2 : MS} {g1 g2 : Nat → Prop}
theorem RA_zz (hR : RA t g1 g2 r1 r2) : RA 0 g1 g2 (zB r1 0 0) (zB r2 0 0) := by
  refine ⟨fun a i z hv => hR.1 a i (RtP_mo (Nat.zero_le _) (RtP_z z)) hv, fun a i ha hz hn => hR.2.1 a i ha hz (fun y => hn ?_), fun j hj => ?_, hR.2.2.2⟩
  · unfold InA at y ⊢
    rw [zB_s (j := 63) (by omega), zB_s (j := 22) (by omega), zB_s (j := 24) (by omega), zB_s (j := 30) (by omega), zB_s (j := 44) (by omega), zB_0 (j := 72) (by omega), show (0 : Int32).toNatClampNeg = 0 from by decide]
    rcases y with y | y | y | y | y
    · exact Or.inl y
    · exact Or.inr (Or.inl y)
    · exact Or.inr (Or.inr (Or.inl y))
    · exact Or.inr (Or.inr (Or.inr (Or.inl ⟨y.1, by omega⟩)))
    · exact Or.inr (Or.inr (Or.inr (Or.inr y)))
  · by_cases e1 : j = 103
    · rw [e1]; rfl
    by_cases e2 : j = 104
    · rw [e2]; rfl
    by_cases c : j = 57 ∨ j = 59 ∨ j = 72 ∨ j = 56 ∨ j = 67 ∨ j = 97 ∨ j = 69
    · rw [zB_0 c, zB_0 c]
    · rw [zB_s (by omega), zB_s (by omega)]; exact hR.2.2.1 j hj
/-- midway, behind a begin: between statements -/
theorem IV0_mid (hM : Mid T FN S t w XC σ1 σ2 r1 r2) (h : σ1.1 103 = σ2.1 103) : IV0 T FN S r1 r2 := by
  obtain ⟨hE, U1, U2, B1, B2, kp, pq, o6⟩ := hM
  obtain ⟨g1, l1, D1, h1, X1, g2, l2, D2, h2, X2, m1, m2, hR, i1, i2, t1, e1, e2, w1, hw, x1, x2, ty, a, a1, a2⟩ := hE
  refine ⟨⟨g1, l1, D1, h1, X1, g2, l2, D2, h2, X2, MI_mo m1 (Nat.zero_le _), MI_mo m2 (Nat.zero_le _), RA_zz hR⟩, ?_, ty, ⟨a, a1, a2⟩, U1, U2, ⟨B1.1, B1.2.1, B1.2.2.2.2.2.2⟩, ⟨B2.1, B2.2.1, B2.2.2.2.2.2.2⟩, pq, o6⟩
  rw [(kp 103 (by omega)).1, (kp 103 (by omega)).2]; exact h
/-- both are between statements, no error: at a statement, or at the end -/
def IVs (T : Nat → Nat → Int32) (FN : Nat → Nat → Prop) (S : Nat → Nat → Nat → Nat → Prop) (σ1 σ2 : MS) : Prop := IV0 T FN S σ1 σ2 ∧ (CTn T S σ1 ∨ σ1.1 102 = 1)
/-- both have an error: the run has ended -/
def IVz (T : Nat → Nat → Int32) (FN : Nat → Nat → Prop) (σ1 σ2 : MS) : Prop := UT σ1 ∧ UT σ2 ∧ Bs T FN σ1 ∧ Bs T FN σ2 ∧ EZ 0 179400 σ1 ∧ EZ 0 179400 σ2 ∧ σ1.1 102 = 1 ∧ σ2.1 102 = 1 ∧ σ1.1 105 = σ1.1 56 ∧ σ2.1 105 = σ2.1 56
/-- a statement is begun: one more, and both are between statements, or both have an error -/
theorem E_bgn (hW : SWf T FN S) (hK : SWk T FN S) (hKB : 9 + KBn T ≤ 17000) (hI : IV0 T FN S σ1 σ2) (hC : CTn T S σ1) {L1 L2 : Nat → Int32} (d1 : L1 1 = σ1.2.2 30 0) (d2 : L2 1 = σ2.2.2 30 0) : T2 (fun k => x_begin k 0 L1 σ1) (fun k => x_begin k 0 L2 σ2) (fun r1 r2 => (r1.2.1 103 = σ1.1 103 + 1 ∧ r2.2.1 103 = σ1.1 103 + 1 ∧ r1.2.1 68 = σ1.1 68 ∧ r2.2.1 68 = σ2.1 68) ∧ (IVs T FN S r1.2 r2.2 ∨ IVz T FN r1.2 r2.2)) := by
  obtain ⟨c, un, d, v, n, F, hP, h0⟩ := hC
  have k0 : σ2.2.2 30 0 = nI n := by
    obtain ⟨_, _, _, _, _, _, _, _, _, _, _, _, hR⟩ := hI.1
    exact (hR.2.1 30 0 (by unfold AlR; omega) (by unfold Zn; omega) (InA_4 (by omega))).symm.trans h0
  refine T2_mono (E_begin hW hK hKB hI hP (d1.trans h0) (d2.trans k0)) (fun r1 r2 hr => ?_)
  obtain ⟨y, hr⟩ := hr
  have z1 : ∀ (σ : MS) (x y : Int32), (zB σ x y).1 103 = x := fun _ _ _ => rfl
  have z2 : ∀ (σ : MS) (x y : Int32), (zB σ x y).1 68 = σ.1 68 := fun _ _ _ => rfl
  rcases hr with ⟨t, w, XC, hXC, hM, hc, h8⟩ | ⟨⟨U1, U2, B1, B2, kp⟩, q1, q2, q3, q4, q5, q6⟩
  · have kp := hM.2.2.2.2.2.1
    refine ⟨⟨?_, ?_, ?_, ?_⟩, Or.inl ⟨IV0_mid hM ?_, hc⟩⟩
    · rw [(kp 103 (by omega)).1, z1]
    · rw [(kp 103 (by omega)).2, z1]
    · rw [(kp 68 (by omega)).1, z2]
    · rw [(kp 68 (by omega)).2, z2]
    · rw [z1, z1]
  · refine ⟨⟨?_, ?_, ?_, ?_⟩, Or.inr ⟨U1, U2, B1, B2, q1, q2, q3, q4, q5, q6⟩⟩
    · rw [(kp 103 (by omega)).1, z1]
    · rw [(kp 103 (by omega)).2, z1]
    · rw [(kp 68 (by omega)).1, z2]
    · rw [(kp 68 (by omega)).2, z2]
end IVB
