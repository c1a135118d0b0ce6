/-! A run is set back to its beginning (reference): both sides. -/
/-- behind reset -/
def Rs1 (σ ρ : MS) : Prop := (ρ.2.1 96 = σ.2.1 113 ∧ ∀ j, j ≠ 96 → ρ.2.1 j = σ.2.1 j) ∧ (∀ j, j = 105 ∨ j = 56 ∨ j = 103 ∨ j = 108 ∨ j = 106 ∨ j = 95 ∨ j = 63 ∨ j = 65 → ρ.1 j = 0) ∧ ρ.1 104 = -1 ∧ ρ.1 64 = nI (suN (fl1 σ) 60) ∧ ρ.1 102 = (if σ.1 110 = -1 then 1 else 0) ∧ (∀ j, ¬ (j = 105 ∨ j = 56 ∨ j = 102 ∨ j = 103 ∨ j = 108 ∨ j = 106 ∨ j = 95 ∨ j = 63 ∨ j = 65 ∨ j = 104 ∨ j = 64) → ρ.1 j = σ.1 j) ∧ (∀ a, a ≠ 30 → ρ.2.2 a = σ.2.2 a) ∧ (∀ j, 1 ≤ j → j < 64 → ρ.2.2 30 j = 0) ∧ ρ.2.2 30 0 = (if σ.1 110 = -1 then σ.2.2 30 0 else σ.1 110)
section RS2
variable {T : Nat → Nat → Int32} {FN : Nat → Nat → Prop} {S : Nat → Nat → Nat → Nat → Prop} {σ ρ σ1 σ2 ρ1 ρ2 : MS}
theorem Rs1_of (h : Rs0 60 σ ρ) : Rs1 σ (if σ.1 110 = -1 then mSc ρ 102 1 else mAr ρ 30 0 (σ.1 110)) := by
  obtain ⟨h1, h2, h3, h4, h5, h6, h7, h8, h9⟩ := h
  have lo : ∀ j, 1 ≤ j → j < 64 → ρ.2.2 30 j = 0 := fun j p q => by
    by_cases c : j = 1 ∨ j = 2 ∨ j = 3
    · exact h7 j c
    · exact h8 j (by omega) (by omega)
  by_cases z : σ.1 110 = -1
  · rw [if_pos z]
    refine ⟨h1, fun j hj => ?_, ?_, ?_, ?_, fun j hj => ?_, h6, lo, ?_⟩
    · show upd ρ.1 102 1 j = 0
      rw [upd_other (by omega)]; exact h2 j (by omega)
    · show upd ρ.1 102 1 104 = -1
      rw [upd_other (by omega)]; exact h3
    · show upd ρ.1 102 1 64 = _
      rw [upd_other (by omega)]; exact h4
    · rw [if_pos z]; rfl
    · show upd ρ.1 102 1 j = _
      rw [upd_other (by omega)]; exact h5 j hj
    · rw [if_pos z]; exact h9 0 (by omega)
  · rw [if_neg z]
    refine ⟨h1, fun j hj => h2 j (by omega), h3, h4, ?_, h5, fun a ha => ?_, fun j p q => ?_, ?_⟩
    · rw [if_neg z]; exact h2 102 (by omega)
    · rw [mAr_o ha]; exact h6 a ha
    · rw [mAr_s, upd_other (by omega)]; exact lo j p q
    · rw [if_neg z, mAr_s, upd_same]
theorem E_rs1 {ns : Nat} (h21 : σ.2.2 21 0 = nI ns) (hns : ns ≤ 60) {L : Nat → Int32} : Tm (fun k => x_reset k 0 L σ) (fun r => Rs1 σ r.2) :=
  Tm_mono (s_reset h21 hns) (fun r hr => by
    obtain ⟨ρ, h, e⟩ := hr
    rw [e]; exact Rs1_of h)
theorem RtP_rs1 (h : Rs1 σ ρ) {a i : Nat} (z : RtP 0 ρ a i) : (a = 30 ∧ 4 ≤ i ∧ i < 64) ∨ (a ≠ 30 ∧ RtP 0 σ a i) := by
  obtain ⟨h1, h2, h3, h4, h5, h6, h7, h8, h9⟩ := h
  unfold RtP at z ⊢
  rw [h2 63 (by omega), h6 72 (by omega)] at z
  rcases z with z | ⟨z, y⟩ | ⟨z, p, hp, y⟩ | z | z | z | z | z | z
  · omega
  · left
    unfold StI at y
    rw [show (0 + 1) = 1 from rfl, show (0 + 3) = 3 from rfl, h8 1 (by omega) (by omega), h8 3 (by omega) (by omega), show (0 : Int32).toNatClampNeg = 0 from by decide] at y
    omega
  · rw [show (0 : Int32).toNatClampNeg = 0 from by decide] at hp; omega
  · exact Or.inr ⟨by omega, Or.inr (Or.inr (Or.inr (Or.inl z)))⟩
  · exact Or.inr ⟨by omega, Or.inr (Or.inr (Or.inr (Or.inr (Or.inl z))))⟩
  · exact Or.inr ⟨by omega, Or.inr (Or.inr (Or.inr (Or.inr (Or.inr (Or.inl z)))))⟩
  · exact Or.inr ⟨by omega, Or.inr (Or.inr (Or.inr (Or.inr (Or.inr (Or.inr (Or.inl z))))))⟩
  · exact Or.inr ⟨by omega, Or.inr (Or.inr (Or.inr (Or.inr (Or.inr (Or.inr (Or.inr (Or.inl z)))))))⟩
  · exact Or.inr ⟨by omega, Or.inr (Or.inr (Or.inr (Or.inr (Or.inr (Or.inr (Or.inr (Or.inr z)))))))⟩
theorem MI_rs1 {g : Nat → Prop} {l : List Nat} {B h X : Nat} (hR : Rs1 σ ρ) (hM : MI 0 X g l B h σ) : MI 0 X g l B h ρ := by
  obtain ⟨h1, h2, h3, h4, h5, h6, h7, h8, h9⟩ := id hR
  obtain ⟨P, e, y1, y2, y3, y4, y5, y6⟩ := id hM.2.1
  refine MI_re hM (h6 54 (by omega)) (h6 55 (by omega)) (h7 28 (by decide)) ⟨0, e, h2 63 (by omega), by omega, (h6 72 (by omega)).trans y3, y4, ⟨0, 0, h8 1 (by omega) (by omega), by omega, h8 3 (by omega) (by omega), by omega⟩, fun p hp => absurd hp (by omega)⟩ (fun a i z => ?_)
  rcases RtP_rs1 hR z with ⟨e1, e2, e3⟩ | ⟨e1, e2⟩
  · rw [e1, h8 i (by omega) e3]; exact ⟨0, rfl, Or.inl (by decide)⟩
  · rw [h7 a e1]; exact MI_rt hM e2
/-- the totals behind reset -/
theorem UT_rs1 (hR : Rs1 σ ρ) (h33 : ∀ i, i < 1380 → σ.2.2 33 i = 0) : UT ρ := by
  obtain ⟨h1, h2, h3, h4, h5, h6, h7, h8, h9⟩ := hR
  have k : kC ρ = kC σ := kC_r (h7 20 (by decide)) (h7 21 (by decide)) (h6 30 (by omega))
  have st : ∀ i, StI (ρ.2.2 30) 0 i → 4 ≤ i ∧ i < 64 := fun i y => by
    unfold StI at y
    rw [show (0 + 1) = 1 from rfl, show (0 + 3) = 3 from rfl, h8 1 (by omega) (by omega), h8 3 (by omega) (by omega), show (0 : Int32).toNatClampNeg = 0 from by decide] at y
    omega
  have st' : ∀ i, 4 ≤ i → i < 64 → StI (ρ.2.2 30) 0 i := fun i p q => by unfold StI; omega
  have sS : StS ρ = suN (fl1 σ) 60 := by
    unfold StS SzS
    rw [suN_blk (f := szP (ρ.2.2 28) (kC ρ) (ρ.2.2 30) 0) (g := fun _ => 0) (a := 4) (n := 11514) (by omega) (fun j _ c => ?_) (fun _ _ _ => rfl), suN_0 (fun _ _ => rfl), Nat.zero_add]
    · refine suN_c (fun j hj => ?_)
      show szP (ρ.2.2 28) (kC ρ) (ρ.2.2 30) 0 (4 + j) = fl1 σ j
      have nu : NUa (kC ρ) (ρ.2.2 30) 0 (4 + j) ↔ kC σ j = 0 := by
        unfold NUa
        rw [k, show 4 + j - 4 = j by omega]
        constructor
        · rintro (z | z)
          · exact z.2.2
          · omega
        · intro z; exact Or.inl ⟨by omega, by omega, z⟩
      unfold szP fl1
      by_cases c : kC σ j = 0
      · rw [if_pos c, if_neg (fun z => z.2 (nu.mpr c))]
      · rw [if_neg c, if_pos ⟨st' _ (by omega) (by omega), fun z => c (nu.mp z)⟩, Nat.zero_add, h8 (4 + j) (by omega) (by omega), show (0 : Int32).toNatClampNeg = 0 from by decide, szN_0]
    · unfold szP
      rw [if_neg (fun z => by have := st _ z.1; omega)]
  have b := fl1_b (σ := σ) 60
  refine ⟨by rw [h4, sS], 0, h2 63 (by omega), by omega, h2 65 (by omega), fun p hp => absurd hp (by omega), ?_, fun i y _ => ?_, fun p hp => absurd hp (by omega), fun i hi => ?_, ⟨0, h8 1 (by omega) (by omega), by omega, fun i hi => absurd hi (by omega)⟩, fun p hp => absurd hp (by omega)⟩
  · show StS ρ + 0 ≤ 40000
    rw [sS]; omega
  · have := st i y
    exact h8 i (by omega) (by omega)
  · rw [h7 33 (by decide)]; exact h33 i hi
theorem Bz_rs1 (hR : Rs1 σ ρ) (hB : Bz T FN σ) : Bz T FN ρ := by
  obtain ⟨h1, h2, h3, h4, h5, h6, h7, h8, h9⟩ := hR
  have k : kC ρ = kC σ := kC_r (h7 20 (by decide)) (h7 21 (by decide)) (h6 30 (by omega))
  refine ⟨STb_b hB.1 (fun j hj => h6 j (by omega)) (fun a i q => by rw [h7 a (by omega)]), fun a i p q r => by rw [h7 a (by omega)]; exact hB.2.1 a i p q r, fun i => by rw [k]; exact hB.2.2 i⟩
end RS2
