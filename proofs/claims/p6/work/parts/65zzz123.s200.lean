/-! Evaluation on both sides (reference): the states, what stays, answers. -/
/-- open iterators: over rows, at a place of theirs -/
def IT (g : Nat → Prop) (σ : MS) : Prop := ∃ e, σ.1 72 = nI e ∧ e ≤ 4000 ∧ ∀ i, i < e → ∃ v k p, σ.2.2 34 i = nI v ∧ g v ∧ 4 ≤ kdN (σ.2.2 28) v ∧ σ.2.2 28 (v + 1) = nI p ∧ p ≤ 3996 ∧ σ.2.2 35 i = nI k ∧ k ≤ p
/-- both sides midway in an evaluation: t upon the pile, work w, no error -/
def EIx (t w XC : Nat) (σ1 σ2 : MS) (g1 : Nat → Prop) (l1 : List Nat) (B1 h1 X1 : Nat) (g2 : Nat → Prop) (l2 : List Nat) (B2 h2 X2 : Nat) : Prop := MI t X1 g1 l1 B1 h1 σ1 ∧ MI t X2 g2 l2 B2 h2 σ2 ∧ RA t g1 g2 σ1 σ2 ∧ IT g1 σ1 ∧ IT g2 σ2 ∧ σ1.1 59 = nI t ∧ σ1.1 56 = 0 ∧ σ2.1 56 = 0 ∧ σ1.1 57 = nI w ∧ (w ≤ 60000 ∧ h1 + (XC - 400000) + 10 ≤ B1 + 870000 ∧ h2 + (XC - 400000) + 10 ≤ B2 + 870000) ∧ X1 ≤ XC + 6 * w ∧ X2 ≤ XC + 6 * w ∧ (TyT (σ1.2.2 2) ∧ σ1.2.2 2 = σ2.2.2 2) ∧ ∃ a, σ1.1 95 = nI a ∧ a ≤ 1000000
def EI (t w XC : Nat) (σ1 σ2 : MS) : Prop := ∃ (g1 : Nat → Prop) (l1 : List Nat) (B1 h1 X1 : Nat) (g2 : Nat → Prop) (l2 : List Nat) (B2 h2 X2 : Nat), EIx t w XC σ1 σ2 g1 l1 B1 h1 X1 g2 l2 B2 h2 X2
/-- places of a run's values -/
def Rt4 (σ : MS) (a i : Nat) : Prop := (a = 30 ∧ StI (σ.2.2 30) 0 i) ∨ (a = 31 ∧ ∃ p, p < (σ.1 63).toNatClampNeg ∧ StI (σ.2.2 31) (11514 * p) i) ∨ (a = 33 ∧ i < 1380)
def szV (σ : MS) (a i : Nat) : Nat × Nat × Int32 := (szN (σ.2.2 28) (σ.2.2 a i).toNatClampNeg, kdN (σ.2.2 28) (σ.2.2 a i).toNatClampNeg, if (σ.2.2 a i).toNatClampNeg < 3 then 0 else σ.2.2 28 ((σ.2.2 a i).toNatClampNeg + 1))
/-- which slots count: flags of slots that are told (stale flags don't) -/
def kC (σ : MS) (i : Nat) : Int32 := if 2520 ≤ i ∨ hdU (σ.1 30) (σ.2.2 21) (i / 60) ≤ i % 60 then 0 else σ.2.2 20 i
theorem kC_d {σ ρ : MS} (h20 : ∀ i, i < 2520 → ρ.2.2 20 i = σ.2.2 20 i) (h21 : ∀ i, i < 42 → ρ.2.2 21 i = σ.2.2 21 i) (hc : ρ.1 30 = σ.1 30) (i : Nat) : kC ρ i = kC σ i := by
  unfold kC
  by_cases c : 2520 ≤ i
  · rw [if_pos (Or.inl c), if_pos (Or.inl c)]
  · rw [h20 i (by omega), hc, hdU_h (h21 (i / 60) (by omega))]
theorem kC_of {σ : MS} {i : Nat} (h : i < 2520) (h' : i % 60 < hdU (σ.1 30) (σ.2.2 21) (i / 60)) : kC σ i = σ.2.2 20 i := by
  unfold kC
  rw [if_neg (fun z => by omega)]
/-- alike: the same slots count -/
theorem kC_ra {t : Nat} {g1 g2 : Nat → Prop} {σ1 σ2 : MS} (hR : RA t g1 g2 σ1 σ2) (i : Nat) : kC σ2 i = kC σ1 i := by
  have hc : σ2.1 30 = σ1.1 30 := (hR.2.2.1 30 (by unfold AlS; omega)).symm
  unfold kC
  by_cases c : 2520 ≤ i
  · rw [if_pos (Or.inl c), if_pos (Or.inl c)]
  have e : hdU (σ2.1 30) (σ2.2.2 21) (i / 60) = hdU (σ1.1 30) (σ1.2.2 21) (i / 60) := by
    rw [hc]
    by_cases z : i / 60 ≤ (σ1.1 30).toNatClampNeg
    · exact hdU_h (hR.2.1 21 _ (by unfold AlR; omega) (by unfold Zn; omega) (InA_21 ⟨by omega, z⟩)).symm
    · unfold hdU; rw [if_neg z, if_neg z]
  rw [e]
  by_cases z : hdU (σ1.1 30) (σ1.2.2 21) (i / 60) ≤ i % 60
  · rw [if_pos (Or.inr z), if_pos (Or.inr z)]
  · rw [if_neg (fun y => by omega), if_neg (fun y => by omega)]
    exact (hR.2.1 20 i (by unfold AlR; omega) (by unfold Zn; omega) (InA_20 (by omega) (by omega))).symm
theorem kC_c {σ ρ : MS} (h20 : ∀ i, ρ.2.2 20 i = σ.2.2 20 i) (h21 : ∀ i, i < 42 → ρ.2.2 21 i = σ.2.2 21 i) (hc : ρ.1 30 = σ.1 30) (i : Nat) : kC ρ i = kC σ i := kC_d (fun i _ => h20 i) h21 hc i
theorem kC_r {σ ρ : MS} (h20 : ρ.2.2 20 = σ.2.2 20) (h21 : ρ.2.2 21 = σ.2.2 21) (hc : ρ.1 30 = σ.1 30) : kC ρ = kC σ := funext (kC_c (fun i => by rw [h20]) (fun i _ => by rw [h21]) hc)
theorem kC_in {σ : MS} {u s : Nat} (hs : s < 60) (h : s < (σ.2.2 21 u).toNatClampNeg) (hc : u ≤ (σ.1 30).toNatClampNeg) (hu : u < 42 := by omega) : kC σ (60 * u + s) = σ.2.2 20 (60 * u + s) := by
  unfold kC
  rw [show (60 * u + s) / 60 = u by omega, show (60 * u + s) % 60 = s by omega, show hdU (σ.1 30) (σ.2.2 21) u = (σ.2.2 21 u).toNatClampNeg from if_pos hc, if_neg (fun z => by omega)]
theorem kC_out {σ : MS} {u s : Nat} (hu : u < 42) (hs : s < 60) (h : (σ.2.2 21 u).toNatClampNeg ≤ s) : kC σ (60 * u + s) = 0 := by
  unfold kC
  rw [show (60 * u + s) / 60 = u by omega, show (60 * u + s) % 60 = s by omega, if_pos (Or.inr (by unfold hdU; split <;> omega))]
/-- places that don't count -/
def NU (σ : MS) (a i : Nat) : Prop := a = 33 ∨ (a = 30 ∧ ((4 ≤ i ∧ i < 64 ∧ kC σ (i - 4) = 0) ∨ (214 ≤ i ∧ i < 3214 ∧ kC σ (60 * (1 + (σ.2.2 30 (65 + 3 * ((i - 214) / 60))).toNatClampNeg) + (i - 214) % 60) = 0)))
/-- a place holds what it held -/
def SVb (σ ρ : MS) (a i : Nat) : Prop := EVb (σ.2.2 28) (ρ.2.2 28) (σ.2.2 a i).toNatClampNeg (ρ.2.2 a i).toNatClampNeg ∨ (ρ.2.2 28 = σ.2.2 28 ∧ ρ.2.2 a i = σ.2.2 a i)
theorem SVb_tr {σ τ ρ : MS} {x i : Nat} (a : SVb σ τ x i) (b : SVb τ ρ x i) : SVb σ ρ x i := by
  rcases b with b | ⟨b1, b2⟩
  · rcases a with a | ⟨a1, a2⟩
    · exact Or.inl (EVb_tr a b)
    · rw [a1, a2] at b; exact Or.inl b
  · rcases a with a | ⟨a1, a2⟩
    · refine Or.inl ?_
      rw [b1, b2]; exact a
    · exact Or.inr ⟨b1.trans a1, b2.trans a2⟩
/-- what places hold (but for those of N): a thing of the same size, or om in a place that doesn't count -/
def KPn (N : Nat → Nat → Prop) (σ ρ : MS) : Prop := ∀ a i, Rt4 σ a i → ¬ N a i → (szV ρ a i = szV σ a i ∧ (σ.2.2 a i = 0 → ρ.2.2 a i = 0) ∧ SVb σ ρ a i) ∨ (ρ.2.2 a i = 0 ∧ NU σ a i)
def FB0 (σ τ : MS) : Prop := τ.1 63 = σ.1 63 ∧ (∀ i, kC τ i = kC σ i) ∧ (∀ i, ¬ Zn 30 i → τ.2.2 30 i = σ.2.2 30 i) ∧ (∀ i, ¬ Zn 31 i → τ.2.2 31 i = σ.2.2 31 i)
abbrev NoN : Nat → Nat → Prop := fun _ _ => False
/-- what an evaluation leaves as it was: numbers, tables, iterators that were open; what places hold, but for those of N -/
def FEn (N : Nat → Nat → Prop) (σ ρ : MS) : Prop := (∀ j, AlS j → j ≠ 57 → j ≠ 59 → j ≠ 95 → ρ.1 j = σ.1 j) ∧ (∀ a i, AlR a → ¬ Zn a i → ¬ ((a = 35 ∨ a = 50) ∧ (σ.1 72).toNatClampNeg ≤ i) → ρ.2.2 a i = σ.2.2 a i) ∧ ρ.2.2 2 = σ.2.2 2 ∧ KPn N σ ρ
abbrev FE (σ ρ : MS) : Prop := FEn NoN σ ρ
/-- one side with an error: at least a, at most b upon the pile -/
def EZ (a b : Nat) (σ : MS) : Prop := ∃ (g : Nat → Prop) (l : List Nat) (B h t : Nat), MI t 870000 g l B h σ ∧ σ.1 59 = nI t ∧ a ≤ t ∧ t ≤ b ∧ ¬ σ.1 56 = 0 ∧ ErB σ ∧ (∃ w, σ.1 57 = nI w ∧ w ≤ 80000) ∧ ∃ c, σ.1 95 = nI c ∧ c ≤ 1000000
/-- behind an evaluation that began at t -/
def EQ (b t w XC : Nat) (σ1 σ2 : MS) (r1 r2 : Int32 × MS) : Prop := FE σ1 r1.2 ∧ FE σ2 r2.2 ∧ ((∃ w', w ≤ w' ∧ EI (t + 1) w' XC r1.2 r2.2) ∨ (EZ t b r1.2 ∧ EZ t b r2.2))
theorem szV_ev {H1 H2 : Nat → Int32} {m m' : Nat} (q5 : EVb H1 H2 m m') : (szN H2 m', kdN H2 m', if m' < 3 then 0 else H2 (m' + 1)) = (szN H1 m, kdN H1 m, if m < 3 then (0 : Int32) else H1 (m + 1)) := by
  obtain ⟨e1, _, e3⟩ := EVb_sz q5
  rw [e1, e3]
  by_cases c : m < 3
  · rcases EVb_VR q5 with z | z
    · rw [if_pos c, if_pos (by omega)]
    · omega
  · rcases EVb_VR q5 with z | z
    · omega
    · rw [if_neg c, if_neg (by omega), EVb_hd q5 (by omega) (i := 1) (by omega)]
section EVA
variable {g g' : Nat → Prop} {l l' : List Nat} {B h t X w : Nat} {σ τ ρ : MS}
theorem Rt4_b {a i : Nat} (h : FB0 σ τ) (hr : Rt4 σ a i) : Rt4 τ a i := by
  obtain ⟨h63, h20, h30, h31⟩ := h
  rcases hr with ⟨e, z⟩ | ⟨e, p, hp, z⟩ | z
  · refine Or.inl ⟨e, ?_⟩
    unfold StI at z ⊢
    rw [h30 (0 + 1) (by unfold Zn; omega), h30 (0 + 3) (by unfold Zn; omega)]; exact z
  · refine Or.inr (Or.inl ⟨e, p, by rw [h63]; exact hp, ?_⟩)
    unfold StI at z ⊢
    rw [h31 (11514 * p + 1) (by unfold Zn; omega), h31 (11514 * p + 3) (by unfold Zn; omega)]; exact z
  · exact Or.inr (Or.inr z)
theorem NU_b {a i : Nat} (h : FB0 σ τ) : NU τ a i ↔ NU σ a i := by
  obtain ⟨h63, h20, h30, h31⟩ := h
  unfold NU
  by_cases c : 214 ≤ i ∧ i < 3214
  · rw [h20, h20, h30 (65 + 3 * ((i - 214) / 60)) (by unfold Zn; omega)]
  · rw [h20]
    constructor
    · rintro (z | ⟨e, z | z⟩)
      · exact Or.inl z
      · exact Or.inr ⟨e, Or.inl z⟩
      · exact absurd ⟨z.1, z.2.1⟩ c
    · rintro (z | ⟨e, z | z⟩)
      · exact Or.inl z
      · exact Or.inr ⟨e, Or.inl z⟩
      · exact absurd ⟨z.1, z.2.1⟩ c
theorem KPn_tr {N : Nat → Nat → Prop} (h : FB0 σ τ) (a : KPn N σ τ) (b : KPn N τ ρ) : KPn N σ ρ := by
  intro x i hr hn
  rcases b x i (Rt4_b h hr) hn with ⟨b1, b2, b3⟩ | ⟨b1, b2⟩
  · rcases a x i hr hn with ⟨a1, a2, a3⟩ | ⟨a1, a2⟩
    · exact Or.inl ⟨b1.trans a1, fun z => b2 (a2 z), SVb_tr a3 b3⟩
    · exact Or.inr ⟨b2 a1, a2⟩
  · exact Or.inr ⟨b1, (NU_b h).mp b2⟩
theorem KPn_same {N : Nat → Nat → Prop} (h28 : ρ.2.2 28 = σ.2.2 28) (h : ∀ a, a = 30 ∨ a = 31 ∨ a = 33 → ρ.2.2 a = σ.2.2 a) : KPn N σ ρ := by
  intro a i hr hn
  have ha : a = 30 ∨ a = 31 ∨ a = 33 := by unfold Rt4 at hr; omega
  refine Or.inl ⟨?_, fun z => ?_, Or.inr ⟨h28, by rw [h a ha]⟩⟩
  · unfold szV; rw [h28, h a ha]
  · rw [h a ha]; exact z
theorem KPn_eo {N : Nat → Nat → Prop} (hE : EO t g σ g' ρ) : KPn N σ ρ := by
  intro a i hr hn
  have hR : RtP t σ a i := by
    rcases hr with z | z | z
    · exact Or.inr (Or.inl z)
    · exact Or.inr (Or.inr (Or.inl z))
    · exact Or.inr (Or.inr (Or.inr (Or.inl z)))
  obtain ⟨m, m', q1, q2, q3, q4, q5, q6, q7⟩ := hE.1 a i hR
  refine Or.inl ⟨?_, fun z => ?_, Or.inl (by rw [q1, q3, n_cl (by omega), n_cl (by omega)]; exact q5)⟩
  · unfold szV; rw [q1, q3, n_cl (by omega), n_cl (by omega)]; exact szV_ev q5
  · have e : m = 0 := (n_eq (q := 0) (by omega) (by decide)).mp (q1.symm.trans z)
    subst e
    have k : kdN (ρ.2.2 28) m' = 0 := by rw [(EVb_sz q5).2.2]; rfl
    rw [q3]
    rcases q4 with q4 | q4
    · unfold kdN at k
      by_cases c : m' = 0
      · rw [c]; rfl
      · rw [if_neg c, if_pos q4] at k; omega
    · by_cases c : m' = 0
      · rw [c]; rfl
      · exfalso
        by_cases c3 : m' < 3
        · unfold kdN at k; rw [if_neg c, if_pos c3] at k; omega
        · rcases EVb_VR q5 with z | z
          · omega
          · omega
theorem KPn_mo {N N' : Nat → Nat → Prop} (h : ∀ a i, N a i → N' a i) (k : KPn N σ ρ) : KPn N' σ ρ := fun a i hr hn => k a i hr (fun z => hn (h a i z))
theorem FEn_b {N : Nat → Nat → Prop} (a : FEn N σ τ) : FB0 σ τ := ⟨a.1 63 (by unfold AlS; omega) (by decide) (by decide) (by decide), kC_c (fun i => a.2.1 20 i (by unfold AlR; omega) (by unfold Zn; omega) (by omega)) (fun i _ => a.2.1 21 i (by unfold AlR; omega) (by unfold Zn; omega) (by omega)) (a.1 30 (by unfold AlS; omega) (by decide) (by decide) (by decide)), fun i h => a.2.1 30 i (by unfold AlR; omega) h (by omega), fun i h => a.2.1 31 i (by unfold AlR; omega) h (by omega)⟩
theorem FE_rf {N : Nat → Nat → Prop} : FEn N σ σ := ⟨fun _ _ _ _ _ => rfl, fun _ _ _ _ _ => rfl, rfl, KPn_same rfl (fun _ _ => rfl)⟩
theorem FE_tr {N : Nat → Nat → Prop} (a : FEn N σ τ) (b : FEn N τ ρ) : FEn N σ ρ := by
  have e : τ.1 72 = σ.1 72 := a.1 72 (by unfold AlS; omega) (by decide) (by decide) (by decide)
  refine ⟨fun j h1 h2 h3 h4 => (b.1 j h1 h2 h3 h4).trans (a.1 j h1 h2 h3 h4), fun x i h1 h2 h3 => ?_, b.2.2.1.trans a.2.2.1, KPn_tr (FEn_b a) a.2.2.2 b.2.2.2⟩
  rw [b.2.1 x i h1 h2 (by rw [e]; exact h3), a.2.1 x i h1 h2 h3]
theorem FE_n {N : Nat → Nat → Prop} (h : FE σ ρ) : FEn N σ ρ := ⟨h.1, h.2.1, h.2.2.1, KPn_mo (fun _ _ z => z.elim) h.2.2.2⟩
theorem FEn_mo {N N' : Nat → Nat → Prop} (hn : ∀ a i, N a i → N' a i) (h : FEn N σ ρ) : FEn N' σ ρ := ⟨h.1, h.2.1, h.2.2.1, KPn_mo hn h.2.2.2⟩
theorem FE_eo (hQ : RtQ σ) (hE : EO t g σ g' ρ) : FE σ ρ := by
  refine ⟨fun j h1 h2 h3 h4 => hE.2.2 j (by unfold AlS at h1; omega), fun a i h1 h2 _ => hE.2.1 a i (by unfold AlR at h1; omega) (fun z => h2 (Zn_rt hQ z h1)), ?_, KPn_eo hE⟩
  funext i
  exact hE.2.1 2 i (by omega) (by unfold RtP; omega)
/-- numbers alone -/
theorem FE_sc {j : Nat} {x : Int32} (hj : ¬ AlS j ∨ j = 57 ∨ j = 59 ∨ j = 95) : FE σ (mSc σ j x) := by
  refine ⟨fun i h1 h2 h3 h4 => upd_other (fun e => ?_), fun _ _ _ _ _ => rfl, rfl, KPn_same rfl (fun _ _ => rfl)⟩
  subst e
  rcases hj with z | z
  · exact z h1
  · omega
theorem FE_er {e : Int32} : FE σ (mEr σ e) := ⟨fun j h1 _ _ _ => mEr_s (by unfold AlS at h1; omega), fun _ _ _ _ _ => rfl, rfl, KPn_same rfl (fun _ _ => rfl)⟩
theorem FE_pile {i : Nat} {x : Int32} : FE σ (mAr σ 29 i x) := ⟨fun _ _ _ _ _ => rfl, fun a i h1 _ _ => by rw [mAr_o (by unfold AlR at h1; omega)], mAr_o (by decide), KPn_same (mAr_o (by decide)) (fun a h => mAr_o (by omega))⟩
theorem FE_pu {i : Nat} {x : Int32} : FE σ (mPu σ i x) := FE_tr FE_pile (FE_sc (Or.inr (Or.inr (Or.inl rfl))))
theorem FE_wk {n : Nat} (hW : WkO σ w n τ) : FE σ τ := by
  rcases hW with ⟨_, e⟩ | ⟨_, e⟩
  · rw [e]; exact FE_sc (Or.inr (Or.inl rfl))
  · rw [e]; exact FE_tr (FE_sc (Or.inr (Or.inl rfl))) FE_er
/-- a place of N is written -/
theorem FEn_ar {N : Nat → Nat → Prop} {a i : Nat} {x : Int32} (hz : Zn a i) (h33 : a = 30 ∨ a = 33) (h : N a i) : FEn N σ (mAr σ a i x) := by
  have ot : ∀ b j, ¬ (b = a ∧ j = i) → (mAr σ a i x).2.2 b j = σ.2.2 b j := fun b j hn => by
    by_cases c : b = a
    · subst c; rw [mAr_s, upd_other (fun e => hn ⟨rfl, e⟩)]
    · rw [mAr_o c]
  refine ⟨fun _ _ _ _ _ => rfl, fun b j h1 h2 _ => ot b j (fun z => h2 (by rw [z.1, z.2]; exact hz)), ?_, fun b j hr hn => ?_⟩
  · rw [mAr_o (by omega)]
  · have hne : ¬ (b = a ∧ j = i) := fun z => hn (by rw [z.1, z.2]; exact h)
    refine Or.inl ⟨?_, fun z => ?_, Or.inr ⟨mAr_o (by omega), ot b j hne⟩⟩
    · unfold szV; rw [ot b j hne, mAr_o (by omega)]
    · rw [ot b j hne]; exact z
/-- om is written into a place that doesn't count -/
theorem FE_ar0 {a i : Nat} (hz : Zn a i) (h33 : a = 30 ∨ a = 33) (h : NU σ a i) : FE σ (mAr σ a i 0) := by
  obtain ⟨f1, f2, f3, f4⟩ := FEn_ar (σ := σ) (N := fun b j => b = a ∧ j = i) (x := 0) hz h33 ⟨rfl, rfl⟩
  refine ⟨f1, f2, f3, fun b j hr _ => ?_⟩
  by_cases c : b = a ∧ j = i
  · rw [c.1, c.2]; exact Or.inr ⟨by rw [mAr_s, upd_same], h⟩
  · exact f4 b j hr c
theorem IT_eo (hQ : RtQ σ) (hS : HS g l B h σ) (hS' : HS g' l' B h ρ ∨ ∃ B' h', HS g' l' B' h' ρ) (hE : EO t g σ g' ρ) (hI : IT g σ) : IT g' ρ := by
  obtain ⟨B', h', hS'⟩ : ∃ B' h', HS g' l' B' h' ρ := by
    rcases hS' with z | z
    · exact ⟨B, h, z⟩
    · exact z
  obtain ⟨e, e1, e2, e3⟩ := hI
  have r72 : ρ.1 72 = σ.1 72 := hE.2.2 72 (by omega)
  refine ⟨e, r72.trans e1, e2, fun i hi => ?_⟩
  obtain ⟨v, k, p, v1, v2, v3, v4, v5, v6, v7⟩ := e3 i hi
  have hR : RtP t σ 34 i := by
    unfold RtP
    rw [e1, n_cl (p := e) (by omega)]
    exact Or.inr (Or.inr (Or.inr (Or.inr (Or.inl ⟨rfl, hi⟩))))
  obtain ⟨m, m', q1, q2, q3, q4, q5, q6, q7⟩ := hE.1 34 i hR
  have bv := HS_vb hS (Or.inr v2)
  have em : m = v := (n_eq (by omega) (by omega)).mp (q1.symm.trans v1)
  subst em
  have hk : 4 ≤ kdN (ρ.2.2 28) m' := by rw [(EVb_sz q5).2.2]; exact v3
  have m3 : 3 ≤ m := by
    obtain ⟨_, _, _, _, _, z, _⟩ := HS_at hS v2
    omega
  refine ⟨m', k, p, q3, kdN_ge hS' q4 (by omega), hk, (EVb_hd q5 m3 (i := 1) (by omega)).trans v4, v5, ?_, v7⟩
  rw [hE.2.1 35 i (by omega) (by unfold RtP; omega)]
  exact v6
theorem IT_c (h72 : τ.1 72 = σ.1 72) (h34 : τ.2.2 34 = σ.2.2 34) (h35 : τ.2.2 35 = σ.2.2 35) (h28 : τ.2.2 28 = σ.2.2 28) (hI : IT g σ) : IT g τ := by
  unfold IT; rw [h72, h34, h35, h28]; exact hI
/-- with an error: one more thing upon the pile -/
theorem EZ_pu {a b : Nat} {x : Int32} {t' : Nat} (hM : MI t' X g l B h σ) (h59 : σ.1 59 = nI t') (ha : a ≤ t') (hb : t' + 1 ≤ b) (he : ¬ σ.1 56 = 0) (hE : ErB σ) (hw : ∃ w, σ.1 57 = nI w ∧ w ≤ 80000) (hc : ∃ c, σ.1 95 = nI c ∧ c ≤ 1000000) (hx : Vd g x) : EZ a b (mPu σ t' x) := by
  obtain ⟨m, m1, m2⟩ := hx
  have hM1 : MI (t' + 1) (X + 6 * szN (σ.2.2 28) m) g l B h (mPu σ t' (nI m)) := MI_pu hM m2
  rw [m1]
  refine ⟨g, l, B, h, t' + 1, MI_any hM1.1 hM1.2.1 hM1.2.2.1, rfl, by omega, hb, ?_, ErB_c (mPu_s (by decide)) hE, ?_, ?_⟩
  · rw [mPu_s (by decide)]; exact he
  · rw [mPu_s (by decide)]; exact hw
  · rw [mPu_s (by decide)]; exact hc
end EVA
section EAN
variable {g1 g2 : Nat → Prop} {l1 l2 : List Nat} {B1 h1 B2 h2 X1 X2 t w XC : Nat} {ρ1 ρ2 : MS}
/-- an answer is counted and pushed -/
theorem E_ans {c : Nat} {Q : Int32 × MS → Int32 × MS → Prop} {F1 F2 : Nat → Int32 × MS → Option (Int32 × MS)} {r1 r2 : Int32 × MS} (m1 : MI t X1 g1 l1 B1 h1 ρ1) (m2 : MI t X2 g2 l2 B2 h2 ρ2) (hR : RA t g1 g2 ρ1 ρ2) (i1 : IT g1 ρ1) (i2 : IT g2 ρ2) (ht : t ≤ 176000 ∧ XC - 400000 + 10 ≤ c) (hT : TyT (ρ1.2.2 2)) (hT2 : ρ1.2.2 2 = ρ2.2.2 2) (ha : ∃ a, r1.2.1 95 = nI a ∧ a ≤ 1000000) (ha2 : r1.2.1 95 = r2.2.1 95)
    (s1 : SO t w XC g1 ρ1 r1) (s2 : SO t w XC g2 ρ2 r2) (hK : KS c r1 r2) (hQ : ∀ v1 v2 : Int32 × MS, FE ρ1 v1.2 → FE ρ2 v2.2 → ((∃ w', w ≤ w' ∧ EI (t + 1) w' XC v1.2 v2.2) ∨ (EZ t (t + 2001) v1.2 ∧ EZ t (t + 2001) v2.2)) → T2 (fun k => F1 k v1) (fun k => F2 k v2) Q) :
    T2 (fun k => ob (x_answer k 0 (upd (fun _ => 0) 1 r1.1) r1.2) (fun u => ob (x_push k 0 (upd (fun _ => 0) 1 u.1) u.2) (F1 k))) (fun k => ob (x_answer k 0 (upd (fun _ => 0) 1 r2.1) r2.2) (fun u => ob (x_push k 0 (upd (fun _ => 0) 1 u.1) u.2) (F2 k))) Q := by
  obtain ⟨gA, lA, BA, hA, XA, wA, tA, a1, a2, a3, a4, a5, a6, a7, ⟨a8, a9, a10, a11⟩, a12⟩ := s1
  obtain ⟨gB, lB, BB, hB, XB, wB, tB, b1, b2, b3, b4, b5, b6, b7, ⟨b8, b9, b10, b11⟩, b12⟩ := s2
  have f1 := FE_eo m1.2.1 a2
  have f2 := FE_eo m2.2.1 b2
  obtain ⟨c1, c2, c3⟩ := a3
  obtain ⟨d1, d2, d3⟩ := b3
  have ha' : ∃ a, r2.2.1 95 = nI a ∧ a ≤ 1000000 := by rw [← ha2]; exact ha
  by_cases er : r1.2.1 56 = 0
  · have er2 := hK.1.1.mp er
    obtain ⟨⟨⟨rB1, rh1, rm1, rm2, rm3, rm4⟩, ⟨rB2, rh2, rn1, rn2, rn3, rn4⟩⟩, k57, u, v, k1, k2, k3, k4, k5⟩ := hK.1.2 er
    have room : hA + (XC - 400000) + 10 ≤ BA + 870000 ∧ hB + (XC - 400000) + 10 ≤ BB + 870000 := by
      have p1 := HS_b a1.1
      have p2 := HS_b b1.1
      have p3 := a1.1.2.1
      have p4 := b1.1.2.1
      have e1 : BA = rB1 := (n_eq (by omega) (by omega)).mp (a1.1.1.symm.trans rm1)
      have e2 : BB = rB2 := (n_eq (by omega) (by omega)).mp (b1.1.1.symm.trans rn1)
      have e3 : hA = rh1 := (n_eq (by omega) (by omega)).mp (a1.1.2.2.1.symm.trans rm3)
      have e4 : hB = rh2 := (n_eq (by omega) (by omega)).mp (b1.1.2.2.1.symm.trans rn3)
      omega
    have e1 : tA = t := a11.resolve_right (fun z => z er)
    have e2 : tB = t := b11.resolve_right (fun z => z er2)
    subst e1
    subst e2
    have ew : wB = wA := by
      have z := b5.symm.trans (k57.symm.trans a5)
      exact (n_eq (by omega) (by omega)).mp z
    subst ew
    have bc := HS_vb a1.1 c3
    have bd := HS_vb b1.1 d3
    have eu : c1 = u := (n_eq (by omega) (by omega)).mp (c2.symm.trans k1)
    have ev : d1 = v := (n_eq (by omega) (by omega)).mp (d2.symm.trans k2)
    subst eu
    subst ev
    have hR' := RA_step m1.2.1 m2.2.1 hR a2 b2 k57 (a8.trans b8.symm) hK.2
    have j1 : IT gA r1.2 := IT_eo m1.2.1 m1.1 (Or.inr ⟨BA, hA, a1.1⟩) a2 i1
    have j2 : IT gB r2.2 := IT_eo m2.2.1 m2.1 (Or.inr ⟨BB, hB, b1.1⟩) b2 i2
    have x1 := a12 er
    have x2 := b12 er2
    refine T2_ob (T2_of (s_answer a1.1 c3 a5 (by omega) (by exact c2)) (s_answer b1.1 d3 b5 (by omega) (by exact d2)) (fun n => Pm_wl (fun k => wl_answer k _ _ _) (fun k => wl_answer k _ _ _) (k_answer a1.1 b1.1 c3 d3 k5 er er2 a5 b5 (by omega) (by exact c2) (by exact d2)))) (fun z1 z2 hz => ?_)
    obtain ⟨⟨⟨y1, y2, y3, y4⟩, wl1, wl2⟩, _, _⟩ := hz
    have ys1 : ∀ j, j ≠ 56 → j ≠ 57 → z1.2.1 j = r1.2.1 j := fun j q1 q2 => WkO_s y3 q1 q2
    have ys2 : ∀ j, j ≠ 56 → j ≠ 57 → z2.2.1 j = r2.2.1 j := fun j q1 q2 => WkO_s y4 q1 q2
    have n1 : MI tB XA gA lA BA hA z1.2 := MI_c a1 (ys1 54 (by decide) (by decide)) (ys1 55 (by decide) (by decide)) (ys1 63 (by decide) (by decide)) (ys1 72 (by decide) (by decide)) (WkO_a y3)
    have n2 : MI tB XB gB lB BB hB z2.2 := MI_c b1 (ys2 54 (by decide) (by decide)) (ys2 55 (by decide) (by decide)) (ys2 63 (by decide) (by decide)) (ys2 72 (by decide) (by decide)) (WkO_a y4)
    have z59 : z1.2.1 59 = nI tB := (ys1 59 (by decide) (by decide)).trans a8
    have w59 : z2.2.1 59 = nI tB := (ys2 59 (by decide) (by decide)).trans b8
    refine T2_ob (T2_t (s_push z59 (by omega) _) (s_push w59 (by omega) _)) (fun v1 v2 hv => ?_)
    rw [hv.1, hv.2]
    show T2 (fun k => F1 k (0, mPu z1.2 tB z1.1)) (fun k => F2 k (0, mPu z2.2 tB z2.1)) Q
    rw [y1, y2]
    refine hQ _ _ (FE_tr f1 (FE_tr (FE_wk y3) FE_pu)) (FE_tr f2 (FE_tr (FE_wk y4) FE_pu)) ?_
    have s28 : z1.2.2.2 28 = r1.2.2.2 28 := congrFun (WkO_a y3) 28
    have t28 : z2.2.2.2 28 = r2.2.2.2 28 := congrFun (WkO_a y4) 28
    by_cases le : wB + szN (r1.2.2.2 28) c1 ≤ 60000
    · have zr1 := (WkO_er er y3).mpr le
      have zr2 := (WkO_er er2 y4).mpr le
      have y57 : z1.2.1 57 = nI (wB + szN (r1.2.2.2 28) c1) := WkO_57 y3
      refine Or.inl ⟨wB + szN (r1.2.2.2 28) c1, by omega, gA, lA, BA, hA, XA + 6 * szN (z1.2.2.2 28) c1, gB, lB, BB, hB, XB + 6 * szN (z2.2.2.2 28) d1, MI_pu n1 c3, MI_pu n2 d3, ?_, ?_, ?_, rfl, ?_, ?_, ?_, ⟨le, room⟩, ?_, ?_, ⟨?_, ?_⟩, ?_⟩
      · refine RA_pu n1.2.1 (RA_c hR' (WkO_a y3) (WkO_a y4) (ys1 63 (by decide) (by decide)) (ys1 72 (by decide) (by decide)) (ys1 22 (by decide) (by decide)) (ys1 24 (by decide) (by decide)) (ys1 30 (by decide) (by decide)) (ys1 44 (by decide) (by decide)) (fun j hj => ?_) ?_) ?_
        · by_cases e57 : j = 57
          · rw [e57, y57, WkO_57 y4]
          · rw [ys1 j (by unfold AlS at hj; omega) e57, ys2 j (by unfold AlS at hj; omega) e57]
            exact hR'.2.2.1 j hj
        · rw [wl1, wl2]; exact hK.2
        · rw [s28, t28]; exact ⟨c1, d1, rfl, c3, rfl, d3, k5, bc, bd⟩
      · exact IT_c ((mPu_s (by decide)).trans (ys1 72 (by decide) (by decide))) ((mPu_o (by decide)).trans (congrFun (WkO_a y3) 34)) ((mPu_o (by decide)).trans (congrFun (WkO_a y3) 35)) ((mPu_o (by decide)).trans s28) j1
      · exact IT_c ((mPu_s (by decide)).trans (ys2 72 (by decide) (by decide))) ((mPu_o (by decide)).trans (congrFun (WkO_a y4) 34)) ((mPu_o (by decide)).trans (congrFun (WkO_a y4) 35)) ((mPu_o (by decide)).trans t28) j2
      · rw [mPu_s (by decide)]; exact zr1
      · rw [mPu_s (by decide)]; exact zr2
      · rw [mPu_s (by decide)]; exact y57
      · rw [s28]; omega
      · rw [t28, (EVb_sz k5).1]; omega
      · rw [mPu_o (by decide), congrFun (WkO_a y3) 2, f1.2.2.1]; exact hT
      · rw [mPu_o (by decide), mPu_o (by decide), congrFun (WkO_a y3) 2, congrFun (WkO_a y4) 2, f1.2.2.1, f2.2.2.1]; exact hT2
      · rw [mPu_s (by decide), ys1 95 (by decide) (by decide)]; exact ha
    · have zr1 : ¬ z1.2.1 56 = 0 := fun y => le ((WkO_er er y3).mp y)
      have zr2 : ¬ z2.2.1 56 = 0 := fun y => le ((WkO_er er2 y4).mp y)
      have sz := szN_b a1.1 c3
      refine Or.inr ⟨EZ_pu n1 z59 (by omega) (by omega) zr1 (WkO_E y3 a4) ⟨_, WkO_57 y3, by omega⟩ (by rw [ys1 95 (by decide) (by decide)]; exact ha) ⟨c1, rfl, c3⟩, EZ_pu n2 w59 (by omega) (by omega) zr2 (WkO_E y4 b4) ⟨_, WkO_57 y4, by omega⟩ (by rw [ys2 95 (by decide) (by decide)]; exact ha') ⟨d1, rfl, d3⟩⟩
  · have er2 : ¬ r2.2.1 56 = 0 := fun z => er (hK.1.1.mpr z)
    have an : ∀ (r : Int32 × MS), ¬ r.2.1 56 = 0 → Tm (fun k => x_answer k 0 (upd (fun _ => 0) 1 r.1) r.2) (fun s => s = r) := fun r he => by
      refine Tm_suc (fun k => by rw [x_answer]) ?_
      refine Tm_ite (fun z => absurd z he) (fun _ => ?_)
      refine Tm_suc (fun k => by rw [x_answer]) ?_
      exact Tm_some rfl
    refine T2_ob (T2_t (an r1 er) (an r2 er2)) (fun z1 z2 hz => ?_)
    rw [hz.1, hz.2]
    refine T2_ob (T2_t (s_push a8 (by omega) _) (s_push b8 (by omega) _)) (fun v1 v2 hv => ?_)
    rw [hv.1, hv.2]
    show T2 (fun k => F1 k (0, mPu r1.2 tA r1.1)) (fun k => F2 k (0, mPu r2.2 tB r2.1)) Q
    refine hQ _ _ (FE_tr f1 FE_pu) (FE_tr f2 FE_pu) (Or.inr ⟨EZ_pu a1 a8 a9 (by omega) er a4 ⟨_, a5, by omega⟩ ha ⟨c1, c2, c3⟩, EZ_pu b1 b8 b9 (by omega) er2 b4 ⟨_, b5, by omega⟩ ha' ⟨d1, d2, d3⟩⟩)
end EAN
