/-! A run is left alone (reference): what is asked in between doesn't change where it stands. -/
/-- the run of ω is the run of σ -/
def AEq (σ ω : MS) : Prop := (∀ j, j = 22 ∨ j = 24 ∨ (63 ≤ j ∧ j ≤ 66) ∨ j = 95 ∨ (102 ≤ j ∧ j ≤ 106) ∨ j = 110 ∨ j = 112 ∨ j = 30 ∨ j = 44 → ω.1 j = σ.1 j) ∧ ω.1 68 = 0 ∧ (∀ a i, 30 ≤ a → a ≤ 32 → ¬ Zn a i → ω.2.2 a i = σ.2.2 a i) ∧ (∀ a i, ((a = 10 ∨ a = 11 ∨ (17 ≤ a ∧ a ≤ 21)) ∧ ¬ StU (σ.1 30) (σ.1 44) (σ.2.2 21) a i) ∨ (4 ≤ a ∧ a ≤ 9 ∧ (1 ≤ i ∧ i < (σ.1 22).toNatClampNeg)) ∨ (a = 12 ∧ i < (σ.1 24).toNatClampNeg) ∨ (a = 19 ∧ i < 8 * (σ.1 30).toNatClampNeg ∧ i % 8 < (σ.2.2 18 (i / 8)).toNatClampNeg) → ω.2.2 a i = σ.2.2 a i) ∧ ω.2.2 2 = σ.2.2 2 ∧ (∀ a i, (a = 30 ∧ StI (σ.2.2 30) 0 i) ∨ (a = 31 ∧ ∃ p, p < (σ.1 63).toNatClampNeg ∧ StI (σ.2.2 31) (11514 * p) i) → szV ω a i = szV σ a i ∧ SVb σ ω a i) ∧ (∀ i, i < 1380 → ω.2.2 33 i = 0) ∧ ω.2.1 96 = σ.2.1 96 ∧ ω.2.1 113 = σ.2.1 113
section AES
variable {T : Nat → Nat → Int32} {FN : Nat → Nat → Prop} {S : Nat → Nat → Nat → Nat → Prop} {σ ω r : MS} {C K : Nat → Int32} {e0 z0 x66 : Int32} {sd : Int64} {m : Nat}
theorem hd_ae (a : AEq σ ω) (u : Nat) (hu : u < 42) : hdU (σ.1 30) (ω.2.2 21) u = hdU (σ.1 30) (σ.2.2 21) u := by
  unfold hdU
  by_cases z : u ≤ (σ.1 30).toNatClampNeg
  · rw [if_pos z, if_pos z, a.2.2.2.1 21 u (Or.inl ⟨by omega, by unfold StU; omega⟩)]
  · rw [if_neg z, if_neg z]
theorem kC_ae (a : AEq σ ω) (i : Nat) : kC ω i = kC σ i := by
  unfold kC
  by_cases c : 2520 ≤ i
  · rw [if_pos (Or.inl c), if_pos (Or.inl c)]
  rw [a.1 30 (by omega), hd_ae a (i / 60) (by omega)]
  by_cases z : hdU (σ.1 30) (σ.2.2 21) (i / 60) ≤ i % 60
  · rw [if_pos (Or.inr z), if_pos (Or.inr z)]
  · rw [if_neg (fun y => by omega), if_neg (fun y => by omega)]
    exact a.2.2.2.1 20 i (Or.inl ⟨by omega, by unfold StU; omega⟩)
theorem Bz_ae (a : AEq σ ω) (h : Bz T FN σ) : Bz T FN ω := by
  obtain ⟨b1, b2, b3⟩ := h
  refine ⟨STb_b b1 (fun j hj => a.1 j (by omega)) (fun x i h => a.2.2.2.1 x i (by unfold StU; omega)), fun x i h1 h2 h3 => ?_, fun i => (kC_ae a i).trans (b3 i)⟩
  have e30 : (σ.1 30).toNatClampNeg = CNo T % 42 := by rw [b1.2.2.2.2.2.1, n_cl (p := CNo T % 42) (by omega)]
  by_cases e19 : x = 19
  · rw [a.2.2.2.1 x i (Or.inr (Or.inr (Or.inr ⟨e19, by rw [e30]; omega, by rw [b2 18 (i / 8) (by omega) (by omega) (by omega)]; omega⟩)))]; exact b2 x i h1 h2 h3
  · rw [a.2.2.2.1 x i (Or.inl ⟨by omega, by unfold StU; rw [e30]; omega⟩)]; exact b2 x i h1 h2 h3
theorem RIc_ae (a : AEq σ ω) (hM : ∃ (g : Nat → Prop) (l : List Nat) (B h X : Nat), MI 0 X g l B h ω) (h : RIc T FN C K e0 z0 x66 0 sd σ) : RIc T FN C K e0 z0 x66 0 sd ω := by
  obtain ⟨_, q2, q3, q4, q5, q6, q7, q8, q9, q10⟩ := h
  have hB := Bz_ae a q2
  obtain ⟨a1, a2, a3, a4, a5, a6, a7, a8, a9⟩ := a
  refine ⟨hM, hB, a7, ⟨q4.1, a5.trans q4.2⟩, trivial, (a1 110 (by omega)).trans q6, fun z => ?_, (a1 66 (by omega)).trans q8, a2, a9.trans q10⟩
  · rw [a3 30 0 (by omega) (by omega) (by unfold Zn; omega)]; exact q7 z
theorem Pos_ae (hW : SWf T FN S) {c un d v n : Nat} {F : List Nat} (a : AEq σ ω) (h : Pos T S c un d v n F σ) : Pos T S c un d v n F ω := by
  obtain ⟨_, _, _, b3, b4⟩ := Pos_b hW h
  obtain ⟨h1, h2, h3, h4, h5, h6, h7⟩ := h
  have e : ∀ i, ¬ Zn 30 i → ω.2.2 30 i = σ.2.2 30 i := fun i hi => a.2.2.1 30 i (by omega) (by omega) hi
  refine ⟨h1, (e 1 (by unfold Zn; omega)).trans h2, LVs_c h1 (fun i a b => e i (by unfold Zn; omega)) h3, (e 2 (by unfold Zn; omega)).trans h4, FSk_c (by omega) (fun i a b => e i (by unfold Zn; omega)) h5, (e 3 (by unfold Zn; omega)).trans h6, fun i hi => ?_⟩
  have hs := (a.2.2.2.2.2.1 30 (5314 + i) (Or.inl ⟨rfl, Or.inr (Or.inr ⟨by omega, by rw [show 0 + 3 = 3 from rfl, h6, n_cl (p := suI T F) (by omega)]; omega⟩)⟩)).1
  rw [hs, e (8414 + i) (by unfold Zn; omega)]
  exact h7 i hi
theorem PtQ_ae (a : AEq σ ω) (h : PtQ T S σ) : PtQ T S ω := by
  have e : ∀ p i, i < 4 ∨ (64 ≤ i ∧ i < 214) ∨ (3214 ≤ i ∧ i < 5314) → ω.2.2 31 (11514 * p + i) = σ.2.2 31 (11514 * p + i) := fun p i hi => a.2.2.1 31 _ (by omega) (by omega) (by unfold Zn; omega)
  intro p hp
  rw [a.1 63 (by omega)] at hp
  obtain ⟨c, un, d, v, n, F, h1, h2, h3⟩ := h p hp
  exact ⟨c, un, d, v, n, F, PlA_c h1 (fun i hi => e p i hi), (e p 0 (by omega)).trans h2, h3⟩
theorem InA_ae (a : AEq σ ω) (x i : Nat) : InA (zB ω 0 0) x i ↔ InA (zB σ 0 0) x i := by
  refine InA_c (σ := zB σ 0 0) (ρ := zB ω 0 0) ?_ rfl ?_ ?_ ?_ ?_ (fun u hu => ?_) (fun j hj => a.2.2.1 30 j (by omega) (by omega) (by unfold Zn; omega)) (fun p _ j hj => a.2.2.1 31 _ (by omega) (by omega) (by unfold Zn; omega)) x i
  · rw [zB_s (by omega), zB_s (by omega)]; exact a.1 63 (by omega)
  · rw [zB_s (by omega), zB_s (by omega)]; exact a.1 22 (by omega)
  · rw [zB_s (by omega), zB_s (by omega)]; exact a.1 24 (by omega)
  · rw [zB_s (by omega), zB_s (by omega)]; exact a.1 30 (by omega)
  · rw [zB_s (by omega), zB_s (by omega)]; exact a.1 44 (by omega)
  · rw [zB_s (by omega)]; exact hd_ae a u hu
/-- a value that holds what another held -/
theorem VC_ae {g1 g2 g : Nat → Prop} {H : Nat → Int32} {y : Int32} {x i : Nat} (hs : SVb σ ω x i) (h : VC g1 g2 (σ.2.2 28) H (σ.2.2 x i) y) {l : List Nat} {B h' : Nat} (hS : HS g l B h' ω) (hv : Vd g (ω.2.2 x i)) : VC g g2 (ω.2.2 28) H (ω.2.2 x i) y := by
  obtain ⟨m, m', q1, q2, q3, q4, q5, q6, q7⟩ := h
  obtain ⟨k, k1, k2⟩ := hv
  have kb := HS_vb hS k2
  refine ⟨k, m', k1, k2, q3, q4, ?_, kb, q7⟩
  rcases hs with z | ⟨z1, z2⟩
  · rw [q1, k1, n_cl (p := m) (by omega), n_cl (p := k) (by omega)] at z
    exact EVb_tr (EVb_sy z) q5
  · have e : k = m := (n_eq (by omega) (by omega)).mp (k1.symm.trans (z2.trans q1))
    rw [z1, e]; exact q5
theorem RA_ae {g1 g2 g : Nat → Prop} {l : List Nat} {B h X : Nat} (a : AEq σ ω) (h68 : σ.1 68 = 0) (h33 : ∀ i, i < 1380 → σ.2.2 33 i = 0) (hM : MI 0 X g l B h ω) (hR : RA 0 g1 g2 (zB σ 0 0) (zB r 0 0)) : RA 0 g g2 (zB ω 0 0) (zB r 0 0) := by
  have ia := InA_ae a
  obtain ⟨a1, a2, a3, a4, a5, a6, a7, a8, a9⟩ := a
  obtain ⟨r1, r2, r3, r4⟩ := hR
  have s63 : (zB ω 0 0).1 63 = σ.1 63 := (zB_s (by omega)).trans (a1 63 (by omega))
  refine ⟨fun x i z hv => ?_, fun x i hx hz hn => ?_, fun j hj => ?_, ?_⟩
  · have zω := RtP_z z
    have vd := hM.2.2.1 x i zω
    show VC g g2 (ω.2.2 28) (r.2.2 28) (ω.2.2 x i) (r.2.2 x i)
    unfold RtP at z
    rw [s63, show (zB ω 0 0).1 72 = 0 from rfl, show (0 : Int32).toNatClampNeg = 0 from by decide] at z
    have e30 : ∀ j, j = 1 ∨ j = 3 → ω.2.2 30 j = σ.2.2 30 j := fun j hj => a3 30 j (by omega) (by omega) (by unfold Zn; omega)
    have e31 : ∀ p j, j = 1 ∨ j = 3 → ω.2.2 31 (11514 * p + j) = σ.2.2 31 (11514 * p + j) := fun p j hj => a3 31 _ (by omega) (by omega) (by unfold Zn; omega)
    rcases z with z | ⟨z, y⟩ | ⟨z, p, hp, y⟩ | z | z | z | z | z | z
    · omega
    · have y' : StI (σ.2.2 30) 0 i := (StI_c (A := σ.2.2 30) (e30 1 (by omega)) (e30 3 (by omega))).mp y
      rw [z] at vd ⊢
      exact VC_ae (a6 30 i (Or.inl ⟨rfl, y'⟩)).2 (r1 30 i (Or.inr (Or.inl ⟨rfl, y'⟩)) (by unfold VwR; omega)) hM.1 vd
    · have y' : StI (σ.2.2 31) (11514 * p) i := (StI_c (A := σ.2.2 31) (e31 p 1 (by omega)) (e31 p 3 (by omega))).mp y
      rw [z] at vd ⊢
      exact VC_ae (a6 31 i (Or.inr ⟨rfl, p, hp, y'⟩)).2 (r1 31 i (Or.inr (Or.inr (Or.inl ⟨rfl, p, by rw [zB_s (by omega)]; exact hp, y'⟩))) (by unfold VwR; omega)) hM.1 vd
    · have v := r1 33 i (Or.inr (Or.inr (Or.inr (Or.inl ⟨rfl, z.2⟩)))) (by unfold VwR; omega)
      have v0 : r.2.2 33 i = 0 := (VC_0 v).mp (h33 i z.2)
      rw [z.1, a7 i z.2, v0]; exact VC_00
    · omega
    · exact absurd (Or.inl z.1) hv
    · exact absurd (Or.inr (Or.inl z.1)) hv
    · exact absurd (Or.inr (Or.inr (Or.inl z.1))) hv
    · exact absurd (Or.inr (Or.inr (Or.inr z.1))) hv
  · have hn' : ¬ InA (zB σ 0 0) x i := fun z => hn ((ia x i).mpr z)
    have hs := r2 x i hx hz hn'
    refine Eq.trans ?_ hs
    show ω.2.2 x i = σ.2.2 x i
    by_cases c : 30 ≤ x ∧ x ≤ 32
    · exact a3 x i c.1 c.2 hz
    · exact a4 x i ((InA_zz hx (fun z => c ⟨z.1, z.2⟩) hz hn').imp id (fun z => z.imp id Or.inl))
  · rw [← r3 j hj]
    by_cases c : j = 57 ∨ j = 59 ∨ j = 72 ∨ j = 56 ∨ j = 67 ∨ j = 97 ∨ j = 69
    · rw [zB_0 c, zB_0 c]
    by_cases e3 : j = 103
    · rw [e3]; rfl
    by_cases e4 : j = 104
    · rw [e4]; rfl
    rw [zB_s (by omega), zB_s (by omega)]
    by_cases e8 : j = 68
    · rw [e8]; exact a2.trans h68.symm
    · exact a1 j (by unfold AlS at hj; omega)
  · show ω.2.1 96 = r.2.1 96
    exact a8.trans r4
theorem IV0_ae (a : AEq σ ω) (h68 : σ.1 68 = 0) (hM : ∃ (g : Nat → Prop) (l : List Nat) (B h X : Nat), MI 0 X g l B h ω) (hU : UT ω) (h : IV0 T FN S σ r) : IV0 T FN S ω r := by
  obtain ⟨⟨g1, l1, B1, h1, X1, g2, l2, B2, h2, X2, m1, m2, hR⟩, q1, q2, ⟨x, x1, x2⟩, U1, U2, b1, b2, p, ⟨y, y1, y2⟩⟩ := h
  obtain ⟨g, l, B, h', X, mω⟩ := hM
  obtain ⟨_, _, _, _, _, _, _, _, _, o3, _⟩ := U1
  exact ⟨⟨g, l, B, h', X, g2, l2, B2, h2, X2, mω, m2, RA_ae a h68 o3 mω hR⟩, (a.1 103 (by omega)).trans q1, ⟨by rw [a.2.2.2.2.1]; exact q2.1, a.2.2.2.2.1.trans q2.2⟩, ⟨x, (a.1 95 (by omega)).trans x1, x2⟩, hU, U2, Bz_ae a b1, b2, PtQ_ae a p, ⟨y, (a.1 106 (by omega)).trans y1, y2⟩⟩
theorem IVs_ae (hW : SWf T FN S) (a : AEq σ ω) (h68 : σ.1 68 = 0) (hM : ∃ (g : Nat → Prop) (l : List Nat) (B h X : Nat), MI 0 X g l B h ω) (hU : UT ω) (h : IVs T FN S σ r) : IVs T FN S ω r := by
  obtain ⟨h1, h4⟩ := h
  refine ⟨IV0_ae a h68 hM hU h1, h4.imp (fun z => ?_) (fun z => (a.1 102 (by omega)).trans z)⟩
  obtain ⟨c, un, d, v, n, F, hP, h0⟩ := z
  exact ⟨c, un, d, v, n, F, Pos_ae hW a hP, (a.2.2.1 30 0 (by omega) (by omega) (by unfold Zn; omega)).trans h0⟩
/-- a run stands where it stood -/
theorem PSt_ae (hW : SWf T FN S) (a : AEq σ ω) (hM : ∃ (g : Nat → Prop) (l : List Nat) (B h X : Nat), MI 0 X g l B h ω) (hU : UT ω) (h : PSt T FN S C K e0 z0 x66 0 sd m σ) : PSt T FN S C K e0 z0 x66 0 sd m ω := by
  obtain ⟨q1, q2, q3, q4⟩ := h
  have h68 : σ.1 68 = 0 := q1.2.2.2.2.2.2.2.2.1
  refine ⟨RIc_ae a hM q1, ⟨(a.1 103 (by omega)).trans q2.1, fun σ' hR' => ?_⟩, q3, q4⟩
  obtain ⟨r, N, y1, y2, y3⟩ := q2.2 σ' hR'
  exact ⟨r, N, y1, y2, y3.imp (fun z => IVs_ae hW a h68 hM hU z) (fun z => ⟨hU, (a.1 102 (by omega)).trans z.2.1, by obtain ⟨x, x1, x2⟩ := z.2.2; exact ⟨x, (a.1 95 (by omega)).trans x1, x2⟩⟩)⟩
/-- the totals of a run that is left alone -/
theorem PSt_UT (h : PSt T FN S C K e0 z0 x66 0 sd m σ) : UT σ ∧ ∃ a, σ.1 95 = nI a ∧ a ≤ 1000000 := by
  obtain ⟨q1, q2, q3, q4⟩ := h
  obtain ⟨r, N, y1, y2, y3⟩ := q2.2 σ q1
  rcases y3 with y | y
  · obtain ⟨_, _, _, x, U, _⟩ := y.1
    exact ⟨U, x⟩
  · exact ⟨y.1, y.2.2⟩
end AES
