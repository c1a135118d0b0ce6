section JnS246
/-! Statements on both sides (reference): the frame of a call is left. -/
theorem suN_ex {f : Nat → Nat} {n : Nat} : ∀ {m : Nat}, n ≤ m → (∀ j, n ≤ j → j < m → f j = 0) → suN f m = suN f n := by
  intro m
  induction m with
  | zero => intro h _; rw [show n = 0 by omega]
  | succ m ih =>
    intro h hz
    by_cases e : n = m + 1
    · rw [e]
    · show suN f m + f m = suN f n
      rw [ih (by omega) (fun j h1 h2 => hz j h1 (by omega)), hz m (by omega) (by omega)]; omega
theorem suN_mo {f : Nat → Nat} {n : Nat} : ∀ {m : Nat}, n ≤ m → suN f n ≤ suN f m := by
  intro m
  induction m with
  | zero => intro h; rw [show n = 0 by omega]; exact Nat.le_refl _
  | succ m ih =>
    intro h
    by_cases e : n = m + 1
    · rw [e]; exact Nat.le_refl _
    · have := ih (by omega)
      show suN f n ≤ suN f m + f m
      omega
/-- what a slot of a call counts -/
noncomputable def pzC (σ : MS) (l2 j : Nat) : Nat := szP (σ.2.2 28) (kC σ) (σ.2.2 30) 0 (214 + 60 * l2 + j)
/-- params are pushed -/
def PBp (t l2 i : Nat) (σ ρ : MS) : Prop := (∀ a, a ≠ 29 → ρ.2.2 a = σ.2.2 a) ∧ (∀ j, j ≠ 59 → ρ.1 j = σ.1 j) ∧ ρ.2.1 = σ.2.1 ∧ ρ.1 59 = nI (t + i) ∧ (∀ j, j < t → ρ.2.2 29 j = σ.2.2 29 j) ∧ ∀ j, j < i → ρ.2.2 29 (t + j) = σ.2.2 30 (214 + 60 * l2 + j)
theorem PB_pu {t l2 i : Nat} {σ ρ : MS} (h : PBp t l2 i σ ρ) : PBp t l2 (i + 1) σ (mPu ρ (t + i) (σ.2.2 30 (214 + 60 * l2 + i))) := by
  obtain ⟨h1, h2, h3, h4, h5, h6⟩ := h
  have p29 : (mPu ρ (t + i) (σ.2.2 30 (214 + 60 * l2 + i))).2.2 29 = upd (ρ.2.2 29) (t + i) (σ.2.2 30 (214 + 60 * l2 + i)) := by
    show (mAr ρ 29 (t + i) _).2.2 29 = _
    rw [mAr_s]
  refine ⟨fun a ha => (mPu_o ha).trans (h1 a ha), fun j hj => (mPu_s hj).trans (h2 j hj), h3, rfl, fun j hj => ?_, fun j hj => ?_⟩
  · rw [p29, upd_other (by omega)]; exact h5 j hj
  · rw [p29]
    by_cases e : j = i
    · rw [e, upd_same]
    · rw [upd_other (by omega)]; exact h6 j (by omega)
section GBF
variable {T : Nat → Nat → Int32} {t w XC l2 pr np ns n0 : Nat} {σ σ1 σ2 : MS} {x y : Int32}
/-- the totals of a state whose last call is gone -/
theorem StS_l {ρ : MS} (hc : σ.2.2 30 1 = nI (l2 + 1)) (hl : l2 < 50) (h1 : ρ.2.2 30 1 = nI l2) (ho : ∀ j, j ≠ 1 → ρ.2.2 30 j = σ.2.2 30 j) (h28 : ρ.2.2 28 = σ.2.2 28) (h20 : kC ρ = kC σ) : StS σ = StS ρ + suN (pzC σ l2) 60 := by
  have st : ∀ j, StI (ρ.2.2 30) 0 j ↔ (StI (σ.2.2 30) 0 j ∧ ¬ (214 + 60 * l2 ≤ j ∧ j < 214 + 60 * l2 + 60)) := fun j => by
    unfold StI
    rw [show (0 + 1) = 1 from rfl, h1, hc, ho (0 + 3) (by omega), n_cl (p := l2) (by omega), n_cl (p := l2 + 1) (by omega)]
    constructor
    · intro z; omega
    · intro z; omega
  have nu : ∀ j, NUa (kC σ) (ρ.2.2 30) 0 j ↔ NUa (kC σ) (σ.2.2 30) 0 j := fun j => NUa_m (fun j h1 h2 _ => ho _ (by omega))
  unfold StS SzS
  rw [h28, h20]
  refine suN_blk (by omega) (fun j hj hn => ?_) (fun j h1 h2 => ?_)
  · unfold szP
    have e : CtA (kC σ) (ρ.2.2 30) 0 j ↔ CtA (kC σ) (σ.2.2 30) 0 j := by
      unfold CtA; rw [st, nu]
      constructor
      · intro z; exact ⟨z.1.1, z.2⟩
      · intro z; exact ⟨⟨z.1, by omega⟩, z.2⟩
    by_cases c : CtA (kC σ) (σ.2.2 30) 0 j
    · rw [if_pos c, if_pos (e.mpr c), ho (0 + j) (fun z => by have := c.1; unfold StI at this; omega)]
    · rw [if_neg c, if_neg (fun z => c (e.mp z))]
  · unfold szP
    rw [if_neg (fun z => ((st _).mp z.1).2 (by omega))]
/-- the frame of a call is left: params and an answer lie upon the pile -/
theorem E_gbFrame {Q : Int32 × MS → Int32 × MS → Prop} (ht : t ≤ 100000) (hI : EI t w XC σ1 σ2) (hV : EI (t + 1) w XC (mPu σ1 t x) (mPu σ2 t y)) (U1 : UT σ1) (U2 : UT σ2) (hl : l2 < 50) (hc : σ1.2.2 30 1 = nI (l2 + 1)) (h65 : σ1.2.2 30 (65 + 3 * l2) = nI pr) (hpr : pr < 41) (hpc : pr < (σ1.1 30).toNatClampNeg) (hnp : np ≤ 8 ∧ np ≤ 60) (hns : ns ≤ 60) (t18 : σ1.2.2 18 pr = nI np) (t21 : σ1.2.2 21 (1 + pr) = nI ns) (t20 : ∀ s, ns ≤ s → s < 60 → kC σ1 (60 * (1 + pr) + s) = 0) {N1 N2 : Nat → Int32} (n1 : N1 1 = x) (o1 : N2 1 = y) (n2 : N1 2 = nI l2) (o2 : N2 2 = nI l2) (n3 : N1 3 = nI n0) (o3 : N2 3 = nI n0) (n4 : N1 4 = nI pr) (o4 : N2 4 = nI pr) (hQ : ∀ (τ1 τ2 : MS) (M1 M2 : Nat → Int32), M1 3 = nI n0 → M2 3 = nI n0 → M1 4 = nI pr → M2 4 = nI pr → M1 5 = nI t → M2 5 = nI t → EI (t + np + 1) w XC τ1 τ2 → UT τ1 → UT τ2 → FCt (fun i => i = 1) σ1 τ1 → FCt (fun i => i = 1) σ2 τ2 → τ1.2.2 30 1 = nI l2 → (∀ q, q ≤ 3100 → ItS σ1 q → ItS τ1 q) → T2 (fun k => x_giveBack k 10 M1 τ1) (fun k => x_giveBack k 10 M2 τ2) Q) : T2 (fun k => x_giveBack k 2 N1 σ1) (fun k => x_giveBack k 2 N2 σ2) Q := by
  obtain ⟨s1, s2⟩ := EI_59 hI
  have hI0 := hI
  obtain ⟨g1, l1, B1, h1, X1, g2, l2', B2, h2, X2, m1, m2, hR, _⟩ := hI0
  have r18 : σ2.2.2 18 pr = σ1.2.2 18 pr := EI_row hI ⟨Or.inr rfl, hpc⟩
  have rk : ∀ i, kC σ2 i = kC σ1 i := kC_ra hR
  have c30 : σ2.1 30 = σ1.1 30 := (hR.2.2.1 30 (by unfold AlS; omega)).symm
  have r21 : σ2.2.2 21 (1 + pr) = σ1.2.2 21 (1 + pr) := (hR.2.1 21 _ (by unfold AlR; omega) (by unfold Zn; omega) (InA_21 ⟨by omega, by omega⟩)).symm
  have k1 : σ2.2.2 30 1 = nI (l2 + 1) := (EI_30 hI (by unfold Zn; omega) (InA_4 (by omega))).trans hc
  have k65 : σ2.2.2 30 (65 + 3 * l2) = nI pr := (EI_30 hI (by unfold Zn; omega) (InA_cl hc (by omega) (by omega))).trans h65
  have stp : ∀ j, j < 60 → StI (σ1.2.2 30) 0 (214 + 60 * l2 + j) := fun j hj => by
    unfold StI
    rw [show (0 + 1) = 1 from rfl, hc, n_cl (p := l2 + 1) (by omega)]; omega
  have rtp : ∀ j, j < 60 → RtP t σ1 30 (214 + 60 * l2 + j) := fun j hj => Or.inr (Or.inl ⟨rfl, stp j hj⟩)
  have flag : ∀ (σ : MS) j, j < 60 → σ.2.2 30 1 = nI (l2 + 1) → σ.2.2 30 (65 + 3 * l2) = nI pr → (CtA (kC σ) (σ.2.2 30) 0 (214 + 60 * l2 + j) ↔ ¬ kC σ (60 * (1 + pr) + j) = 0) := fun σ j hj c1 c2 => by
    have e1 : (214 + 60 * l2 + j - 214) / 60 = l2 := by omega
    have e2 : (214 + 60 * l2 + j - 214) % 60 = j := by omega
    have e3 : NUa (kC σ) (σ.2.2 30) 0 (214 + 60 * l2 + j) ↔ kC σ (60 * (1 + pr) + j) = 0 := by
      unfold NUa
      rw [e1, e2, Nat.zero_add, c2, n_cl (p := pr) (by omega)]
      constructor
      · rintro (z | z)
        · omega
        · exact z.2.2
      · intro z; exact Or.inr ⟨by omega, by omega, z⟩
    unfold CtA
    rw [e3]
    refine ⟨fun z => z.2, fun z => ⟨?_, z⟩⟩
    unfold StI
    rw [show (0 + 1) = 1 from rfl, c1, n_cl (p := l2 + 1) (by omega)]; omega
  -- sizes of slots
  have val : ∀ j, j < 60 → ∃ va vb, σ1.2.2 30 (214 + 60 * l2 + j) = nI va ∧ (va < 3 ∨ g1 va) ∧ σ2.2.2 30 (214 + 60 * l2 + j) = nI vb ∧ (vb < 3 ∨ g2 vb) ∧ szN (σ2.2.2 28) vb = szN (σ1.2.2 28) va ∧ va < 1740000 ∧ vb < 1740000 := fun j hj => by
    obtain ⟨va, vb, a1, a2, a3, a4, a5, a6, a7⟩ := hR.1 30 _ (rtp j hj) (by unfold VwR; omega)
    exact ⟨va, vb, a1, a2, a3, a4, (EVb_sz a5).1, a6, a7⟩
  have pz0 : ∀ (σ : MS) j, j < 60 → σ.2.2 30 1 = nI (l2 + 1) → σ.2.2 30 (65 + 3 * l2) = nI pr → kC σ (60 * (1 + pr) + j) = 0 → pzC σ l2 j = 0 := fun σ j hj c1 c2 z => by
    unfold pzC szP
    rw [if_neg (fun y => (flag σ j hj c1 c2).mp y z)]
  have pz1 : ∀ (σ : MS) j v, j < 60 → v < 1740000 → σ.2.2 30 1 = nI (l2 + 1) → σ.2.2 30 (65 + 3 * l2) = nI pr → ¬ kC σ (60 * (1 + pr) + j) = 0 → σ.2.2 30 (214 + 60 * l2 + j) = nI v → pzC σ l2 j = szN (σ.2.2 28) v := fun σ j v hj hv c1 c2 z hz => by
    unfold pzC szP
    rw [if_pos ((flag σ j hj c1 c2).mpr z), Nat.zero_add, hz, n_cl (p := v) (by omega)]
  have pzE : ∀ j, j < 60 → pzC σ2 l2 j = pzC σ1 l2 j := fun j hj => by
    obtain ⟨va, vb, a1, a2, a3, a4, a5, a6, a7⟩ := val j hj
    by_cases z : kC σ1 (60 * (1 + pr) + j) = 0
    · rw [pz0 σ1 j hj hc h65 z, pz0 σ2 j hj k1 k65 (by rw [rk]; exact z)]
    · rw [pz1 σ1 j va hj a6 hc h65 z a1, pz1 σ2 j vb hj a7 k1 k65 (by rw [rk]; exact z) a3, a5]
  have W1 := U1
  have W2 := U2
  obtain ⟨u64, P, u63, hP, u65, _, ul, _⟩ := W1
  obtain ⟨v64, P', v63, hP', v65, _, vl, _⟩ := W2
  have eS : StS σ2 = StS σ1 := (n_eq (by omega) (by omega)).mp (v64.symm.trans ((hR.2.2.1 64 (by unfold AlS; omega)).symm.trans u64))
  have ple : suN (pzC σ1 l2) 60 ≤ StS σ1 := by
    have := StS_l (σ := σ1) (ρ := mAr σ1 30 1 (nI l2)) hc hl (by rw [mAr_s, upd_same]) (fun j hj => by rw [mAr_s, upd_other hj]) (mAr_o (by decide)) (kC_r (mAr_o (by decide)) (mAr_o (by decide)) rfl)
    omega
  have e214 : ∀ i, i < 60 → (214 : Int32) + 60 * nI l2 + nI i = nI (214 + 60 * l2 + i) := fun i hi => by
    rw [show (60 : Int32) * nI l2 = nI (60 * l2) from n_mulN 60 l2, show (214 : Int32) + nI (60 * l2) = nI (214 + 60 * l2) from n_add (p := 214) (by omega), n_add (by omega)]
  have e1p : (1 : Int32) + nI pr = nI (1 + pr) := n_add (p := 1) (by omega)
  -- block 9: the call is gone
  have b9 : ∀ (ρ1 ρ2 : MS) (M1 M2 : Nat → Int32), M1 3 = nI n0 → M2 3 = nI n0 → M1 4 = nI pr → M2 4 = nI pr → M1 5 = nI t → M2 5 = nI t → (∀ a, a ≠ 29 → ρ1.2.2 a = σ1.2.2 a) → (∀ a, a ≠ 29 → ρ2.2.2 a = σ2.2.2 a) → (∀ j, j ≠ 59 → j ≠ 64 → ρ1.1 j = σ1.1 j) → (∀ j, j ≠ 59 → j ≠ 64 → ρ2.1 j = σ2.1 j) → ρ1.2.1 = σ1.2.1 → ρ2.2.1 = σ2.2.1 → ρ1.1 59 = nI (t + np + 1) → ρ2.1 59 = nI (t + np + 1) → ρ1.1 64 = nI (StS σ1 - suN (pzC σ1 l2) 60) → ρ2.1 64 = nI (StS σ1 - suN (pzC σ1 l2) 60) → (∀ j, j < t → ρ1.2.2 29 j = σ1.2.2 29 j ∧ ρ2.2.2 29 j = σ2.2.2 29 j) → (∀ j, j < np → ρ1.2.2 29 (t + j) = σ1.2.2 30 (214 + 60 * l2 + j) ∧ ρ2.2.2 29 (t + j) = σ2.2.2 30 (214 + 60 * l2 + j)) → ρ1.2.2 29 (t + np) = x ∧ ρ2.2.2 29 (t + np) = y → T2 (fun k => x_giveBack k 9 M1 ρ1) (fun k => x_giveBack k 9 M2 ρ2) Q := by
    intro ρ1 ρ2 M1 M2 q3 p3 q4 p4 q5 p5 ra rb sa sb la lb ta tb za zb pa pb pc
    refine T2_suc (fun k => by rw [x_giveBack]) (fun k => by rw [x_giveBack]) ?_
    refine T2_chk (by decide) (by decide) ?_
    refine T2_chk (by decide) (by decide) ?_
    rw [show (1 : Int32).toNatClampNeg = 1 from by decide, ra 30 (by decide), rb 30 (by decide), hc, k1, n_sub1 (by omega), ← ra 30 (by decide), ← rb 30 (by decide)]
    show T2 (fun k => x_giveBack k 10 M1 (mAr ρ1 30 1 (nI l2))) (fun k => x_giveBack k 10 M2 (mAr ρ2 30 1 (nI l2))) Q
    have o : ∀ (ρ σ : MS) j, (∀ a, a ≠ 29 → ρ.2.2 a = σ.2.2 a) → j ≠ 1 → (mAr ρ 30 1 (nI l2)).2.2 30 j = σ.2.2 30 j := fun ρ σ j h hj => by rw [mAr_s, upd_other hj, h 30 (by decide)]
    have oo : ∀ (ρ σ : MS) a, (∀ a, a ≠ 29 → ρ.2.2 a = σ.2.2 a) → a ≠ 29 → a ≠ 30 → (mAr ρ 30 1 (nI l2)).2.2 a = σ.2.2 a := fun ρ σ a h h1 h2 => by rw [mAr_o h2, h a h1]
    have o1' : ∀ (ρ : MS), (mAr ρ 30 1 (nI l2)).2.2 30 1 = nI l2 := fun ρ => by rw [mAr_s, upd_same]
    have fc : ∀ (ρ σ : MS), (∀ a, a ≠ 29 → ρ.2.2 a = σ.2.2 a) → (∀ j, j ≠ 59 → j ≠ 64 → ρ.1 j = σ.1 j) → FCt (fun i => i = 1) σ (mAr ρ 30 1 (nI l2)) := fun ρ σ hr hs => by
      refine ⟨fun j _ _ h3 _ h5 => hs j h3 h5, fun a i ha hz _ hI => ?_, oo ρ σ 2 hr (by decide) (by decide)⟩
      by_cases e : a = 30
      · subst e; exact o ρ σ i hr (fun e => hI ⟨rfl, e⟩)
      · rw [oo ρ σ a hr (by unfold AlR at ha; omega) e]
    have ut : ∀ (ρ σ : MS), UT σ → (∀ a, a ≠ 29 → ρ.2.2 a = σ.2.2 a) → (∀ j, j ≠ 59 → j ≠ 64 → ρ.1 j = σ.1 j) → σ.2.2 30 1 = nI (l2 + 1) → ρ.1 64 = nI (StS σ - suN (pzC σ l2) 60) → UT (mAr ρ 30 1 (nI l2)) := fun ρ σ U hr hs h1 h64 => by
      have sS := StS_l (σ := σ) (ρ := mAr ρ 30 1 (nI l2)) h1 hl (o1' ρ) (fun j hj => o ρ σ j hr hj) (oo ρ σ 28 hr (by decide) (by decide)) (kC_r (oo ρ σ 20 hr (by decide) (by decide)) (oo ρ σ 21 hr (by decide) (by decide)) (hs 30 (by decide) (by decide)))
      obtain ⟨cc, c1, c2, c3⟩ := UT_cw U
      have ecc : cc = l2 + 1 := (n_eq (by omega) (by omega)).mp (c1.symm.trans h1)
      refine UT_30 U (fun a h1 h2 => oo ρ σ a hr h2 h1) (hs 63 (by decide) (by decide)) (hs 65 (by decide) (by decide)) (hs 30 (by decide) (by decide)) ?_ (Or.inl (by omega)) (fun i c n => ?_) ⟨l2, o1' ρ, by omega, fun i hi => ?_⟩
      · show ρ.1 64 = _
        rw [h64]; congr 1; omega
      · have c' : StI (σ.2.2 30) 0 i ∧ i ≠ 1 := by
          unfold StI at c ⊢
          rw [show (0 + 1) = 1 from rfl, o1' ρ, o ρ σ (0 + 3) hr (by omega), n_cl (p := l2) (by omega)] at c
          rw [show (0 + 1) = 1 from rfl, h1, n_cl (p := l2 + 1) (by omega)]
          omega
        rw [o ρ σ i hr c'.2]
        exact UT_nu U i c'.1 ((NUa_m (fun j h1 h2 _ => o ρ σ _ hr (by omega))).mp n)
      · rw [o ρ σ _ hr (by omega)]
        exact c3 i (by omega)
    refine hQ _ _ M1 M2 q3 p3 q4 p4 q5 p5 ?_ (ut ρ1 σ1 U1 ra sa hc za) (ut ρ2 σ2 U2 rb sb k1 (by rw [zb, eS, suN_c (f := pzC σ2 l2) (g := pzC σ1 l2) (fun j hj => pzE j hj)])) (fc ρ1 σ1 ra sa) (fc ρ2 σ2 rb sb) (o1' ρ1) (fun q hq h => ItS_c (σ := σ1) hq (oo ρ1 σ1 28 ra (by decide) (by decide)) (fun i hi => o ρ1 σ1 i ra (by omega)) h)
    have sv : ∀ (σ : MS) (x : Int32) j, j ≠ 59 → (mPu σ t x).1 j = σ.1 j := fun σ x j hj => mPu_s hj
    have rv : ∀ (σ : MS) (x : Int32) a, a ≠ 29 → (mPu σ t x).2.2 a = σ.2.2 a := fun σ x a ha => mPu_o ha
    have pv : ∀ (σ : MS) (x : Int32) j, j ≠ t → (mPu σ t x).2.2 29 j = σ.2.2 29 j := fun σ x j hj => by
      show (mAr σ 29 t x).2.2 29 j = _
      rw [mAr_s, upd_other hj]
    have pt : ∀ (σ : MS) (x : Int32), (mPu σ t x).2.2 29 t = x := fun σ x => by
      show (mAr σ 29 t x).2.2 29 t = _
      rw [mAr_s, upd_same]
    refine EI_mv hV (fun j hj => ?_) (fun j hj => ?_) la lb (fun a h1 h2 _ _ _ => ?_) (fun a h1 h2 _ _ _ => ?_) ta ?_ (fun j hj hn => ?_) (fun j hj hn => ?_) (fun j hn => ?_) (fun j hj => ?_) (fun a j ha z => ?_)
    · rw [sv _ _ _ (by omega)]; exact sa j (by omega) (by omega)
    · rw [sv _ _ _ (by omega)]; exact sb j (by omega) (by omega)
    · rw [rv _ _ _ h1]; exact oo ρ1 σ1 a ra h1 h2
    · rw [rv _ _ _ h1]; exact oo ρ2 σ2 a rb h1 h2
    · obtain ⟨P, e, y1, y2, y3, y4, ⟨c, n, z1, z2, z3, z4⟩, y6⟩ := m1.2.1
      refine ⟨P, e, (sa 63 (by decide) (by decide)).trans y1, y2, (sa 72 (by decide) (by decide)).trans y3, y4, ⟨l2, n, o1' ρ1, by omega, (o ρ1 σ1 _ ra (by omega)).trans z3, z4⟩, ?_⟩
      rw [oo ρ1 σ1 31 ra (by decide) (by decide)]; exact y6
    · by_cases e : j = 1
      · rw [e, o1', o1']
      · rw [o ρ1 σ1 j ra e, o ρ2 σ2 j rb e]
        refine hR.2.1 30 j (by unfold AlR; omega) hj (fun y => hn (InA_n30 (fun k hk => ?_) y))
        by_cases ek : k = 1
        · rw [ek, o1' ρ1, hc, n_cl (p := l2) (by omega), n_cl (p := l2 + 1) (by omega)]; omega
        · rw [o ρ1 σ1 k ra ek]; exact Nat.le_refl _
    · rw [oo ρ1 σ1 31 ra (by decide) (by decide), oo ρ2 σ2 31 rb (by decide) (by decide)]; exact hR.2.1 31 j (by unfold AlR; omega) hj (fun y => hn (InA_31 (σ := σ1) (sa 63 (by decide) (by decide)) (oo ρ1 σ1 31 ra (by decide) (by decide)) y))
    · rw [oo ρ1 σ1 32 ra (by decide) (by decide), oo ρ2 σ2 32 rb (by decide) (by decide)]; exact hR.2.1 32 j (by unfold AlR; omega) (by unfold Zn; omega) (fun y => hn (InA_32 (σ := σ1) (sa 63 (by decide) (by decide)) y))
    · show ρ1.1 j = ρ2.1 j
      by_cases e : j = 64
      · rw [e, za, zb]
      · by_cases e2 : j = 59
        · rw [e2, ta, tb]
        · rw [sa j e2 e, sb j e2 e]; exact hR.2.2.1 j hj
    · have q29 : ∀ (ρ : MS) j, (mAr ρ 30 1 (nI l2)).2.2 29 j = ρ.2.2 29 j := fun ρ j => by rw [mAr_o (by decide)]
      by_cases e29 : a = 29
      · subst e29
        have hj : j < t + np + 1 := by
          rcases z with z | z
          · exact z.2
          · exfalso
            rcases z with z | z | z | z | z | z | z | z
            · omega
            · have := z.1; omega
            · omega
            · omega
            · omega
            · omega
            · omega
            · omega
        rw [q29, q29]
        by_cases c1 : j < t
        · exact Or.inl ⟨29, j, by unfold VwR; omega, Or.inl ⟨rfl, by omega⟩, by rw [pv _ _ _ (by omega)]; exact (pa j c1).1, by rw [pv _ _ _ (by omega)]; exact (pa j c1).2⟩
        · by_cases c2 : j < t + np
          · have pb' := pb (j - t) (by omega)
            rw [show t + (j - t) = j by omega] at pb'
            refine Or.inl ⟨30, 214 + 60 * l2 + (j - t), by unfold VwR; omega, Or.inr (Or.inl ⟨rfl, ?_⟩), by rw [rv _ _ _ (by decide)]; exact pb'.1, by rw [rv _ _ _ (by decide)]; exact pb'.2⟩
            rw [rv _ _ _ (by decide)]; exact stp _ (by omega)
          · have e : j = t + np := by omega
            rw [e]
            exact Or.inl ⟨29, t, by unfold VwR; omega, Or.inl ⟨rfl, by omega⟩, by rw [pt]; exact pc.1, by rw [pt]; exact pc.2⟩
      · have z' : RtP (t + 1) (mPu σ1 t x) a j ∧ (a = 30 → j ≠ 1) := by
          rcases z with z | ⟨z, y⟩ | ⟨z, p, hp, y⟩ | z | z
          · exact absurd z.1 e29
          · have y' : StI (σ1.2.2 30) 0 j ∧ j ≠ 1 := by
              unfold StI at y ⊢
              rw [show (0 + 1) = 1 from rfl, o1' ρ1, o ρ1 σ1 (0 + 3) ra (by omega), n_cl (p := l2) (by omega)] at y
              rw [show (0 + 1) = 1 from rfl, hc, n_cl (p := l2 + 1) (by omega)]
              omega
            refine ⟨Or.inr (Or.inl ⟨z, ?_⟩), fun _ => y'.2⟩
            rw [rv _ _ _ (by decide)]; exact y'.1
          · refine ⟨Or.inr (Or.inr (Or.inl ⟨z, p, ?_, ?_⟩)), fun e => by omega⟩
            · rw [sv _ _ _ (by decide)]
              have : (mAr ρ1 30 1 (nI l2)).1 63 = σ1.1 63 := sa 63 (by decide) (by decide)
              rw [this] at hp; exact hp
            · rw [rv _ _ _ (by decide)]
              rw [oo ρ1 σ1 31 ra (by decide) (by decide)] at y; exact y
          · exact ⟨Or.inr (Or.inr (Or.inr (Or.inl z))), fun e => by omega⟩
          · have : a = 34 ∨ a = 36 ∨ a = 37 ∨ a = 38 ∨ a = 40 := by omega
            omega
        refine Or.inl ⟨a, j, by unfold VwR; omega, z'.1, ?_, ?_⟩
        · rw [rv _ _ _ e29]
          by_cases e : a = 30
          · subst e; exact o ρ1 σ1 j ra (z'.2 rfl)
          · rw [oo ρ1 σ1 a ra e29 e]
        · rw [rv _ _ _ e29]
          by_cases e : a = 30
          · subst e; exact o ρ2 σ2 j rb (z'.2 rfl)
          · rw [oo ρ2 σ2 a rb e29 e]
  -- blocks 5 to 8: sizes are taken away
  have b5 : ∀ (d i : Nat) (ρ1 ρ2 : MS) (M1 M2 : Nat → Int32), d + i = ns → M1 2 = nI l2 → M2 2 = nI l2 → M1 3 = nI n0 → M2 3 = nI n0 → M1 4 = nI pr → M2 4 = nI pr → M1 5 = nI t → M2 5 = nI t → M1 6 = nI i → M2 6 = nI i → (∀ a, a ≠ 29 → ρ1.2.2 a = σ1.2.2 a) → (∀ a, a ≠ 29 → ρ2.2.2 a = σ2.2.2 a) → (∀ j, j ≠ 59 → j ≠ 64 → ρ1.1 j = σ1.1 j) → (∀ j, j ≠ 59 → j ≠ 64 → ρ2.1 j = σ2.1 j) → ρ1.2.1 = σ1.2.1 → ρ2.2.1 = σ2.2.1 → ρ1.1 59 = nI (t + np + 1) → ρ2.1 59 = nI (t + np + 1) → ρ1.1 64 = nI (StS σ1 - suN (pzC σ1 l2) i) → ρ2.1 64 = nI (StS σ1 - suN (pzC σ1 l2) i) → (∀ j, j < t → ρ1.2.2 29 j = σ1.2.2 29 j ∧ ρ2.2.2 29 j = σ2.2.2 29 j) → (∀ j, j < np → ρ1.2.2 29 (t + j) = σ1.2.2 30 (214 + 60 * l2 + j) ∧ ρ2.2.2 29 (t + j) = σ2.2.2 30 (214 + 60 * l2 + j)) → ρ1.2.2 29 (t + np) = x ∧ ρ2.2.2 29 (t + np) = y → T2 (fun k => x_giveBack k 5 M1 ρ1) (fun k => x_giveBack k 5 M2 ρ2) Q := by
    intro d
    induction d with
    | zero =>
      intro i ρ1 ρ2 M1 M2 hd q2 p2 q3 p3 q4 p4 q5 p5 q6 p6 ra rb sa sb la lb ta tb za zb pa pb pc
      have ei : i = ns := by omega
      subst ei
      have ex : suN (pzC σ1 l2) 60 = suN (pzC σ1 l2) i := suN_ex hns (fun j h1 h2 => pz0 σ1 j h2 hc h65 (t20 j h1 h2))
      refine T2_suc (fun k => by rw [x_giveBack]) (fun k => by rw [x_giveBack]) ?_
      rw [q4, p4, q6, p6, e1p]
      refine T2_chk (n_in (by omega) (by omega)) (n_in (by omega) (by omega)) ?_
      rw [n_cl (p := 1 + pr) (by omega), ra 21 (by decide), rb 21 (by decide), r21, t21]
      refine T2_ite Iff.rfl (fun _ _ => ?_) (fun z _ => absurd (Int32.le_refl _) z)
      exact b9 ρ1 ρ2 M1 M2 q3 p3 q4 p4 q5 p5 ra rb sa sb la lb ta tb (by rw [ex]; exact za) (by rw [ex]; exact zb) pa pb pc
    | succ d ih =>
      intro i ρ1 ρ2 M1 M2 hd q2 p2 q3 p3 q4 p4 q5 p5 q6 p6 ra rb sa sb la lb ta tb za zb pa pb pc
      have i6 : i < 60 := by omega
      obtain ⟨va, vb, a1, a2, a3, a4, a5, a6, a7⟩ := val i i6
      have pm := suN_mo (f := pzC σ1 l2) (n := i + 1) (m := 60) (by omega)
      have pe : suN (pzC σ1 l2) (i + 1) = suN (pzC σ1 l2) i + pzC σ1 l2 i := rfl
      have e60 : (60 : Int32) * nI (1 + pr) = nI (60 * (1 + pr)) := n_mulN 60 (1 + pr)
      -- block 7
      have b7 : ∀ (K1 K2 : Nat → Int32), K1 2 = nI l2 → K2 2 = nI l2 → K1 3 = nI n0 → K2 3 = nI n0 → K1 4 = nI pr → K2 4 = nI pr → K1 5 = nI t → K2 5 = nI t → K1 6 = nI i → K2 6 = nI i → K1 100 = nI (pzC σ1 l2 i) → K2 100 = nI (pzC σ1 l2 i) → K1 101 = ρ1.1 64 → K2 101 = ρ2.1 64 → T2 (fun k => x_giveBack k 7 K1 ρ1) (fun k => x_giveBack k 7 K2 ρ2) Q := by
        intro K1 K2 c2 e2 c3 e3 c4 e4 c5 e5 c6 e6 c100 e100 c101 e101
        have ar : nI (StS σ1 - suN (pzC σ1 l2) i) - nI (pzC σ1 l2 i) = nI (StS σ1 - suN (pzC σ1 l2) (i + 1)) := by
          rw [n_sub (by omega) (by omega)]; congr 1; omega
        refine T2_suc (fun k => by rw [x_giveBack]) (fun k => by rw [x_giveBack]) ?_
        rw [c100, e100, c101, e101, za, zb, ar]
        refine T2_suc (fun k => by rw [x_giveBack]) (fun k => by rw [x_giveBack]) ?_
        rw [c6, e6, n_add1]
        exact ih (i + 1) (mSc ρ1 64 (nI (StS σ1 - suN (pzC σ1 l2) (i + 1)))) (mSc ρ2 64 (nI (StS σ1 - suN (pzC σ1 l2) (i + 1)))) _ _ (by omega) c2 e2 c3 e3 c4 e4 c5 e5 rfl rfl ra rb (fun j h1 h2 => (upd_other h2).trans (sa j h1 h2)) (fun j h1 h2 => (upd_other h2).trans (sb j h1 h2)) la lb ta tb rfl rfl pa pb pc
      refine T2_suc (fun k => by rw [x_giveBack]) (fun k => by rw [x_giveBack]) ?_
      rw [q4, p4, q6, p6, q2, p2, e1p, e60, n_add (p := 60 * (1 + pr)) (by omega), e214 i i6]
      refine T2_chk (n_in (by omega) (by omega)) (n_in (by omega) (by omega)) ?_
      rw [n_cl (p := 1 + pr) (by omega), ra 21 (by decide), rb 21 (by decide), r21, t21]
      refine T2_ite Iff.rfl (fun z _ => ?_) (fun _ _ => ?_)
      · have := (n_le (by omega) (by omega)).mp z
        omega
      refine T2_chk (n_in (by omega) (by omega)) (n_in (by omega) (by omega)) ?_
      rw [n_cl (p := 60 * (1 + pr) + i) (by omega), ra 20 (by decide), rb 20 (by decide), ← kC_in (σ := σ1) (u := 1 + pr) i6 (by rw [t21, n_cl (p := ns) (by omega)]; omega) (by omega), ← kC_in (σ := σ2) (u := 1 + pr) i6 (by rw [r21, t21, n_cl (p := ns) (by omega)]; omega) (by rw [c30]; omega), rk]
      refine T2_ite Iff.rfl (fun z _ => ?_) (fun z _ => ?_)
      · have p0 := pz0 σ1 i i6 hc h65 z
        refine T2_suc (fun k => by rw [x_giveBack]) (fun k => by rw [x_giveBack]) ?_
        exact b7 _ _ q2 p2 q3 p3 q4 p4 q5 p5 q6 p6 (by rw [p0]; rfl) (by rw [p0]; rfl) rfl rfl
      · have p0 := pz1 σ1 i va i6 a6 hc h65 z a1
        refine T2_chk (n_in (by omega) (by omega)) (n_in (by omega) (by omega)) ?_
        rw [n_cl (p := 214 + 60 * l2 + i) (by omega), ra 30 (by decide), rb 30 (by decide), a1, a3]
        refine T2_ob (T2_t (s_size (σ := ρ1) (HS_c m1.1 (sa 54 (by decide) (by decide)) (sa 55 (by decide) (by decide)) (ra 28 (by decide))) a2 rfl) (s_size (σ := ρ2) (HS_c m2.1 (sb 54 (by decide) (by decide)) (sb 55 (by decide) (by decide)) (rb 28 (by decide))) a4 rfl)) (fun y1 y2 hy => ?_)
        rw [hy.1, hy.2, ra 28 (by decide), rb 28 (by decide), a5, ← p0]
        exact b7 _ _ q2 p2 q3 p3 q4 p4 q5 p5 q6 p6 rfl rfl rfl rfl
  -- block 3: params
  have b3 : ∀ (d i : Nat) (ρ1 ρ2 : MS) (M1 M2 : Nat → Int32), d + i = np → M1 1 = x → M2 1 = y → M1 2 = nI l2 → M2 2 = nI l2 → M1 3 = nI n0 → M2 3 = nI n0 → M1 4 = nI pr → M2 4 = nI pr → M1 5 = nI t → M2 5 = nI t → M1 6 = nI i → M2 6 = nI i → PBp t l2 i σ1 ρ1 → PBp t l2 i σ2 ρ2 → T2 (fun k => x_giveBack k 3 M1 ρ1) (fun k => x_giveBack k 3 M2 ρ2) Q := by
    intro d
    induction d with
    | zero =>
      intro i ρ1 ρ2 M1 M2 hd q1 p1 q2 p2 q3 p3 q4 p4 q5 p5 q6 p6 h1 h2
      have ei : i = np := by omega
      subst ei
      obtain ⟨ra, sa, la, ta, pa, pb⟩ := h1
      obtain ⟨rb, sb, lb, tb, pa', pb'⟩ := h2
      refine T2_suc (fun k => by rw [x_giveBack]) (fun k => by rw [x_giveBack]) ?_
      rw [q4, p4, q6, p6]
      refine T2_chk (n_in (by omega) (by omega)) (n_in (by omega) (by omega)) ?_
      rw [n_cl (p := pr) (by omega), ra 18 (by decide), rb 18 (by decide), r18, t18]
      refine T2_ite Iff.rfl (fun _ _ => ?_) (fun z _ => absurd (Int32.le_refl _) z)
      refine T2_suc (fun k => by rw [x_giveBack]) (fun k => by rw [x_giveBack]) ?_
      rw [q1, p1]
      refine T2_ob (T2_t (s_push ta (by omega) _) (s_push tb (by omega) _)) (fun y1 y2 hy => ?_)
      rw [hy.1, hy.2]
      show T2 (fun k => x_giveBack k 5 (upd M1 6 0) (mPu ρ1 (t + i) x)) (fun k => x_giveBack k 5 (upd M2 6 0) (mPu ρ2 (t + i) y)) Q
      have pv : ∀ (ρ : MS) (x : Int32) j, j ≠ t + i → (mPu ρ (t + i) x).2.2 29 j = ρ.2.2 29 j := fun ρ x j hj => by
        show (mAr ρ 29 (t + i) x).2.2 29 j = _
        rw [mAr_s, upd_other hj]
      have pt : ∀ (ρ : MS) (x : Int32), (mPu ρ (t + i) x).2.2 29 (t + i) = x := fun ρ x => by
        show (mAr ρ 29 (t + i) x).2.2 29 (t + i) = _
        rw [mAr_s, upd_same]
      refine b5 ns 0 (mPu ρ1 (t + i) x) (mPu ρ2 (t + i) y) _ _ (by omega) q2 p2 q3 p3 q4 p4 q5 p5 rfl rfl (fun a ha => (mPu_o ha).trans (ra a ha)) (fun a ha => (mPu_o ha).trans (rb a ha)) (fun j h1 _ => (mPu_s h1).trans (sa j h1)) (fun j h1 _ => (mPu_s h1).trans (sb j h1)) la lb rfl rfl ?_ ?_ (fun j hj => ⟨(pv _ _ _ (by omega)).trans (pa j hj), (pv _ _ _ (by omega)).trans (pa' j hj)⟩) (fun j hj => ⟨(pv _ _ _ (by omega)).trans (pb j hj), (pv _ _ _ (by omega)).trans (pb' j hj)⟩) ⟨pt _ _, pt _ _⟩
      · rw [mPu_s (by decide), sa 64 (by decide)]; exact u64
      · rw [mPu_s (by decide), sb 64 (by decide), v64, eS]; rfl
    | succ d ih =>
      intro i ρ1 ρ2 M1 M2 hd q1 p1 q2 p2 q3 p3 q4 p4 q5 p5 q6 p6 h1 h2
      obtain ⟨ra, sa, la, ta, pa, pb⟩ := id h1
      obtain ⟨rb, sb, lb, tb, pa', pb'⟩ := id h2
      refine T2_suc (fun k => by rw [x_giveBack]) (fun k => by rw [x_giveBack]) ?_
      rw [q4, p4, q6, p6, q2, p2, e214 i (by omega)]
      refine T2_chk (n_in (by omega) (by omega)) (n_in (by omega) (by omega)) ?_
      rw [n_cl (p := pr) (by omega), ra 18 (by decide), rb 18 (by decide), r18, t18]
      refine T2_ite Iff.rfl (fun z _ => ?_) (fun _ _ => ?_)
      · have := (n_le (by omega) (by omega)).mp z
        omega
      refine T2_chk (n_in (by omega) (by omega)) (n_in (by omega) (by omega)) ?_
      rw [n_cl (p := 214 + 60 * l2 + i) (by omega), ra 30 (by decide), rb 30 (by decide)]
      refine T2_ob (T2_t (s_push ta (by omega) _) (s_push tb (by omega) _)) (fun y1 y2 hy => ?_)
      rw [hy.1, hy.2, n_add1]
      exact ih (i + 1) _ _ _ _ (by omega) q1 p1 q2 p2 q3 p3 q4 p4 q5 p5 rfl rfl (PB_pu h1) (PB_pu h2)
  refine T2_suc (fun k => by rw [x_giveBack]) (fun k => by rw [x_giveBack]) ?_
  rw [s1, s2]
  exact b3 np 0 σ1 σ2 _ _ (by omega) n1 o1 n2 o2 n3 o3 n4 o4 rfl rfl rfl rfl ⟨fun _ _ => rfl, fun _ _ => rfl, rfl, s1, fun _ _ => rfl, fun j hj => by omega⟩ ⟨fun _ _ => rfl, fun _ _ => rfl, rfl, s2, fun _ _ => rfl, fun j hj => by omega⟩
end GBF
end JnS246
section JnS247
/-! Statements on both sides (reference): units; a call gives back. -/
/-- slots that count, by unit -/
def cnU (un : Nat) (T : Nat → Nat → Int32) (j : Nat) : Prop := (1 ≤ j ∧ j ≤ 60 ∧ ¬ T 20 (j - 1) = 0) ∨ (¬ un = 0 ∧ 61 ≤ j ∧ j ≤ 120 ∧ ¬ T 20 (60 * un + (j - 61)) = 0)
/-- tables, and nothing open -/
def Bs (T : Nat → Nat → Int32) (FN : Nat → Nat → Prop) (σ : MS) : Prop := STb T FN σ ∧ (∀ a i, 17 ≤ a → a ≤ 21 → (a ≠ 20 ∧ (a ≤ 18 → i < CNo T % 42) ∧ (a = 19 → i < 8 * (CNo T % 42) ∧ i % 8 < (T 18 (i / 8)).toNatClampNeg) ∧ (a = 21 → i ≤ CNo T % 42)) → σ.2.2 a i = T a i) ∧ σ.1 67 = 0 ∧ σ.1 97 = 0 ∧ σ.1 72 = 0 ∧ σ.1 69 = 0 ∧ ∀ i, kC σ i = T 20 i
/-- the unit of the last call -/
def LvU (A : Nat → Int32) (c un : Nat) : Prop := (c = 0 ∧ un = 0) ∨ ∃ pr, 1 ≤ c ∧ un = 1 + pr ∧ pr < 41 ∧ A (65 + 3 * (c - 1)) = nI pr
section UNI
variable {T : Nat → Nat → Int32} {FN : Nat → Nat → Prop} {σ ρ σ1 σ2 : MS} {c un t w XC : Nat}
theorem Sc1_lv (hB : Bs T FN σ) (hc : σ.2.2 30 1 = nI c) (h5 : c ≤ 50) (hL : LvU (σ.2.2 30) c un) : Sc1 T FN (lcU un T) (cnU un T) σ := by
  obtain ⟨b1, b2, b3, b4, b5, b6, b7⟩ := hB
  have r20 : kC σ = T 20 := funext b7
  refine ⟨⟨b1, b3, by omega, b4, by omega, b5, ⟨c, hc, h5, fun z => Or.inr ⟨b6, ?_⟩, fun s hs z => ?_, fun s hs z _ h1 => ?_⟩, Or.inl b6⟩, b6, fun s hs z => ?_, fun s c' hs z h1 h2 h3 => ?_⟩
  · have un0 : ¬ un = 0 := by
      rcases z with z | z | z | z
      · exact z.2
      · omega
      · exact z.1
      · omega
    rcases hL with z | ⟨pr, z, _⟩
    · exact absurd z.2 un0
    · exact z
  · rw [r20]
    rcases z with z | z | z | z
    · omega
    · rw [show s = 1 + s - 1 by omega]; exact z.2.2.2
    · omega
    · omega
  · rw [r20]
    rcases z with z | z | z | z
    · omega
    · omega
    · rcases hL with y | ⟨pr, _, y2, y3, y4⟩
      · exact absurd y.2 z.1
      · rw [y4, n_cl (p := pr) (by omega)]
        have := z.2.2.2
        rw [y2, show 61 + s - 61 = s by omega] at this
        exact this
    · omega
  · rw [r20]
    rcases z with z | z
    · have := z.2.2
      rw [show 1 + s - 1 = s by omega] at this
      exact this
    · omega
  · rw [r20]
    have ec : c' = c := (n_eq (by omega) (by omega)).mp (h1.symm.trans hc)
    subst ec
    rcases z with z | z
    · omega
    · rcases hL with y | ⟨pr, _, y2, y3, y4⟩
      · omega
      · rw [y4, n_cl (p := pr) (by omega)]
        have := z.2.2.2
        rw [y2, show 61 + s - 61 = s by omega] at this
        exact this
theorem Bs_fc {I : Nat → Prop} (h : Bs T FN σ) (hF : FCt I σ ρ) : Bs T FN ρ := by
  have row : ∀ a, AlR a → (∀ i, ¬ Zn a i) → a ≠ 35 → a ≠ 50 → a ≠ 30 → ρ.2.2 a = σ.2.2 a := fun a h1 h2 h3 h4 h5 => by
    funext i
    exact hF.2.1 a i h1 (h2 i) (fun z => by omega) (fun z => h5 z.1)
  have sc : ∀ j, j = 67 ∨ j = 97 ∨ j = 72 ∨ j = 69 → ρ.1 j = σ.1 j := fun j hj => hF.1 j (by unfold AlS; omega) (by omega) (by omega) (by omega) (by omega)
  obtain ⟨b0, b2, b3, b4, b5, b6, b7⟩ := h
  refine ⟨STb_b b0 (fun j hj => hF.1 j (by unfold AlS; omega) (by omega) (by omega) (by omega) (by omega)) (fun a i q => hF.2.1 a i (by unfold AlR; omega) (by unfold Zn; omega) (fun z => by omega) (fun z => by omega)), fun a i h1 h2 h3 => ?_, (sc 67 (by omega)).trans b3, (sc 97 (by omega)).trans b4, (sc 72 (by omega)).trans b5, (sc 69 (by omega)).trans b6, fun i => (kC_c (fun i => hF.2.1 20 i (by unfold AlR; omega) (by unfold Zn; omega) (fun z => by omega) (fun z => by omega)) (fun i _ => hF.2.1 21 i (by unfold AlR; omega) (by unfold Zn; omega) (fun z => by omega) (fun z => by omega)) (hF.1 30 (by unfold AlS; omega) (by omega) (by omega) (by omega) (by omega)) i).trans (b7 i)⟩
  rw [hF.2.1 a i (by unfold AlR; omega) (by unfold Zn; omega) (fun z => by omega) (fun z => by omega)]; exact b2 a i h1 h2 h3
theorem EI_pu0 (ht : t < 185000) (hE : EI t w XC σ1 σ2) : EI (t + 1) w XC (mPu σ1 t 0) (mPu σ2 t 0) := by
  have p29 : ∀ (σ : MS), (mPu σ t 0).2.2 29 = upd (σ.2.2 29) t 0 := fun σ => by
    show (mAr σ 29 t _).2.2 29 = _
    rw [mAr_s]
  refine EI_pile hE (fun j hj => mPu_s hj) (fun j hj => mPu_s hj) rfl rfl (fun a ha => mPu_o ha) (fun a ha => mPu_o ha) rfl rfl (fun i hi => ?_)
  by_cases e : i = t
  · rw [e, p29, p29, upd_same, upd_same]; exact Or.inr ⟨rfl, rfl⟩
  · rw [p29, p29, upd_other e, upd_other e]; exact Or.inl ⟨i, by omega, rfl, rfl⟩
end UNI
/-- a target by its last node -/
def TgN (T : Nat → Nat → Int32) (FN : Nat → Nat → Prop) (lc cn : Nat → Prop) (x : Int32) : Prop := ∃ k ch s, x = nI (ch k) ∧ Tgt T FN lc k ch ∧ NmW T lc cn (ch 0) s ∧ kys T ch k ≤ KBn T ∧ kys T ch k ≤ 17000
/-- arguments of a call of pr, from the i-th on -/
def ArL (T : Nat → Nat → Int32) (FN : Nat → Nat → Prop) (lc cn : Nat → Prop) (pr : Nat) : Nat → Nat → Int32 → Prop
  | 0, _, x => x = -1
  | q + 1, i, x => ∃ e, x = nI e ∧ (1 ≤ e ∧ e < LNo T % 70001) ∧ (¬ T 19 (8 * pr + i) ≤ 0 → TgN T FN lc cn x) ∧ (¬ T 19 (8 * pr + i) = 1 → Wx0 T FN lc x) ∧ ArL T FN lc cn pr q (i + 1) (T 9 e)
/-- behind giveBack -/
def GBq (t w XC n0 : Nat) (τ1 τ2 : MS) (r1 r2 : Int32 × MS) : Prop := r1.1 = r2.1 ∧ FSt τ1 r1.2 ∧ FSt τ2 r2.2 ∧ UT r1.2 ∧ UT r2.2 ∧ ((r1.1 = nI n0 ∧ ∃ w', w ≤ w' ∧ EI t w' XC r1.2 r2.2) ∨ (r1.1 = -1 ∧ EZ t 179400 r1.2 ∧ EZ t 179400 r2.2))
section GBW
variable {T : Nat → Nat → Int32} {FN : Nat → Nat → Prop} {lc cn : Nat → Prop} {t w XC pr np n0 : Nat} {τ1 τ2 : MS}
/-- what a call gives back is written -/
theorem E_gbWrites (hXC : XC ≤ 402000) (ht : t + 9 + KBn T ≤ w + 17000) (hn0 : (1 ≤ n0 ∧ n0 < LNo T % 70001)) (hpr : pr < CNo T % 42) (hnp : np ≤ 8) (hS : Sc1 T FN lc cn τ1) (r19 : ∀ a i, ((a = 17 ∨ a = 18) ∧ i < CNo T % 42) ∨ (a = 19 ∧ i < 8 * (CNo T % 42) ∧ i % 8 < (T 18 (i / 8)).toNatClampNeg) → τ1.2.2 a i = T a i ∧ τ2.2.2 a i = T a i) (hI : EI (t + np + 1) w XC τ1 τ2) (U1 : UT τ1) (U2 : UT τ2) (t18 : T 18 pr = nI np) (hA : ArL T FN lc cn pr np 0 (T 6 n0)) (h5 : T 5 n0 = -1 ∨ TgN T FN lc cn (T 5 n0)) {M1 M2 : Nat → Int32} (q3 : M1 3 = nI n0) (p3 : M2 3 = nI n0) (q4 : M1 4 = nI pr) (p4 : M2 4 = nI pr) (q5 : M1 5 = nI t) (p5 : M2 5 = nI t) : T2 (fun k => x_giveBack k 10 M1 τ1) (fun k => x_giveBack k 10 M2 τ2) (GBq t w XC n0 τ1 τ2) := by
  have hS2 := Sc1_ei hS hI
  have w6 := EI_w hI
  have c30 : (τ1.1 30).toNatClampNeg = CNo T % 42 := by rw [hS.1.1.2.2.2.2.2.1, n_cl (p := CNo T % 42) (by omega)]
  have rw19 : ∀ (ρ1 ρ2 : MS), FSt τ1 ρ1 → FSt τ2 ρ2 → ∀ a i, ((a = 17 ∨ a = 18) ∧ i < CNo T % 42) ∨ (a = 19 ∧ i < 8 * (CNo T % 42) ∧ i % 8 < (T 18 (i / 8)).toNatClampNeg) → ρ1.2.2 a i = T a i ∧ ρ2.2.2 a i = T a i := fun ρ1 ρ2 f1 f2 a i h => by
    refine ⟨?_, ?_⟩
    · rw [← (r19 a i h).1]; exact f1.2.1 a i (by unfold AlR; omega) (by unfold Zn; omega) (by omega)
    · rw [← (r19 a i h).2]; exact f2.2.1 a i (by unfold AlR; omega) (by unfold Zn; omega) (by omega)
  -- the end
  have b14 : ∀ (ρ1 ρ2 : MS) (K1 K2 : Nat → Int32), FSt τ1 ρ1 → FSt τ2 ρ2 → UT ρ1 → UT ρ2 → ((∃ w', w ≤ w' ∧ EI (t + np + 1) w' XC ρ1 ρ2) ∨ (EZ (t + np + 1) 179301 ρ1 ∧ EZ (t + np + 1) 179301 ρ2)) → K1 3 = nI n0 → K2 3 = nI n0 → K1 5 = nI t → K2 5 = nI t → T2 (fun k => x_giveBack k 14 K1 ρ1) (fun k => x_giveBack k 14 K2 ρ2) (GBq t w XC n0 τ1 τ2) := by
    intro ρ1 ρ2 K1 K2 f1 f2 V1 V2 hor k3 l3 k5 l5
    have G1 : FSt τ1 (mSc ρ1 59 (nI t)) := FS_tr f1 (FS_sc (by omega))
    have G2 : FSt τ2 (mSc ρ2 59 (nI t)) := FS_tr f2 (FS_sc (by omega))
    have W1 : UT (mSc ρ1 59 (nI t)) := UT_c V1 rfl rfl rfl rfl
    have W2 : UT (mSc ρ2 59 (nI t)) := UT_c V2 rfl rfl rfl rfl
    refine T2_suc (fun k => by rw [x_giveBack]) (fun k => by rw [x_giveBack]) ?_
    rw [k5, l5]
    refine T2_suc (fun k => by rw [x_giveBack]) (fun k => by rw [x_giveBack]) ?_
    rcases hor with ⟨w', hw, hJ⟩ | ⟨z1, z2⟩
    · have hJ' := EI_dn (show t ≤ t + np + 1 by omega) hJ
      obtain ⟨e1, e2⟩ := EI_e hJ'
      show T2 (fun k => if (mSc ρ1 59 (nI t)).1 56 = 0 then x_giveBack k 17 (upd K1 100 (K1 3)) (mSc ρ1 59 (nI t)) else x_giveBack k 16 K1 (mSc ρ1 59 (nI t))) (fun k => if (mSc ρ2 59 (nI t)).1 56 = 0 then x_giveBack k 17 (upd K2 100 (K2 3)) (mSc ρ2 59 (nI t)) else x_giveBack k 16 K2 (mSc ρ2 59 (nI t))) _
      rw [e1, e2, k3, l3]
      refine T2_ite Iff.rfl (fun _ _ => ?_) (fun z _ => absurd rfl z)
      refine T2_suc (fun k => by rw [x_giveBack]) (fun k => by rw [x_giveBack]) ?_
      exact T2_some ⟨rfl, G1, G2, W1, W2, Or.inl ⟨rfl, w', hw, hJ'⟩⟩
    · have y1 : EZ t 179400 (mSc ρ1 59 (nI t)) := EZ_mo (EZ_dn (c := t) z1 (by omega) (by omega)) (Nat.le_refl _) (by omega)
      have y2 : EZ t 179400 (mSc ρ2 59 (nI t)) := EZ_mo (EZ_dn (c := t) z2 (by omega) (by omega)) (Nat.le_refl _) (by omega)
      show T2 (fun k => if (mSc ρ1 59 (nI t)).1 56 = 0 then x_giveBack k 17 (upd K1 100 (K1 3)) (mSc ρ1 59 (nI t)) else x_giveBack k 16 K1 (mSc ρ1 59 (nI t))) (fun k => if (mSc ρ2 59 (nI t)).1 56 = 0 then x_giveBack k 17 (upd K2 100 (K2 3)) (mSc ρ2 59 (nI t)) else x_giveBack k 16 K2 (mSc ρ2 59 (nI t))) _
      refine T2_ite ⟨fun z => absurd z (EZ_e y1), fun z => absurd z (EZ_e y2)⟩ (fun z _ => absurd z (EZ_e y1)) (fun _ _ => ?_)
      refine T2_suc (fun k => by rw [x_giveBack]) (fun k => by rw [x_giveBack]) ?_
      refine T2_suc (fun k => by rw [x_giveBack]) (fun k => by rw [x_giveBack]) ?_
      exact T2_some ⟨rfl, G1, G2, W1, W2, Or.inr ⟨rfl, y1, y2⟩⟩
  have b13 : ∀ (ρ1 ρ2 : MS) (K1 K2 : Nat → Int32), FSt τ1 ρ1 → FSt τ2 ρ2 → UT ρ1 → UT ρ2 → ((∃ w', w ≤ w' ∧ EI (t + np + 1) w' XC ρ1 ρ2) ∨ (EZ (t + np + 1) 179301 ρ1 ∧ EZ (t + np + 1) 179301 ρ2)) → K1 3 = nI n0 → K2 3 = nI n0 → K1 4 = nI pr → K2 4 = nI pr → K1 5 = nI t → K2 5 = nI t → T2 (fun k => x_giveBack k 13 K1 ρ1) (fun k => x_giveBack k 13 K2 ρ2) (GBq t w XC n0 τ1 τ2) := by
    intro ρ1 ρ2 K1 K2 f1 f2 V1 V2 hor k3 l3 k4 l4 k5 l5
    refine T2_suc (fun k => by rw [x_giveBack]) (fun k => by rw [x_giveBack]) ?_
    rcases hor with ⟨w', hw, hJ⟩ | ⟨z1, z2⟩
    · obtain ⟨e1, e2⟩ := EI_e hJ
      have S1 := Sc1_fs hS f1
      have S2 := Sc1_fs hS2 f2
      have r18 := rw19 ρ1 ρ2 f1 f2 18 pr (by omega)
      rw [e1, e2, k3, l3, k4, l4, k5, l5]
      refine T2_ite Iff.rfl (fun _ _ => ?_) (fun z _ => absurd rfl z)
      refine T2_chk (n_in (by omega) (by omega)) (n_in (by omega) (by omega)) ?_
      rw [n_cl (p := n0) (by omega), S1.1.1.1 5 _ (by omega) (by omega) (by omega), S2.1.1.1 5 _ (by omega) (by omega) (by omega)]
      refine T2_ite Iff.rfl (fun _ _ => b14 ρ1 ρ2 K1 K2 f1 f2 V1 V2 (Or.inl ⟨w', hw, hJ⟩) k3 l3 k5 l5) (fun z5 _ => ?_)
      obtain ⟨k, ch, s, x5, hT, hN, hk⟩ := h5.resolve_left z5
      refine T2_chk (n_in3 (by omega) (by omega)) (n_in3 (by omega) (by omega)) ?_
      refine T2_chk (n_in (by omega) (by omega)) (n_in (by omega) (by omega)) ?_
      rw [n_cl (p := pr) (by omega), r18.1, r18.2, t18, x5, n_add (p := t) (by omega)]
      refine T2_ob (E_writeWorked (t := t + np + 1) (p := t + np) hXC hT hN (by omega) hk.2 (by omega) S1 hJ V1 V2 rfl rfl rfl rfl) (fun r1 r2 hr => ?_)
      obtain ⟨c1, c2, c3, c4, c5⟩ := hr
      exact b14 r1.2 r2.2 K1 K2 (FS_tr f1 c1) (FS_tr f2 c2) c3 c4 (c5.imp (fun ⟨w2, h2, h⟩ => ⟨w2, by omega, h⟩) id) k3 l3 k5 l5
    · refine T2_ite ⟨fun z => absurd z (EZ_e z1), fun z => absurd z (EZ_e z2)⟩ (fun z _ => absurd z (EZ_e z1)) (fun _ _ => ?_)
      exact b14 ρ1 ρ2 K1 K2 f1 f2 V1 V2 (Or.inr ⟨z1, z2⟩) k3 l3 k5 l5
  have b11 : ∀ (q i : Nat) (x : Int32) (ρ1 ρ2 : MS) (K1 K2 : Nat → Int32), q + i = np → ArL T FN lc cn pr q i x → FSt τ1 ρ1 → FSt τ2 ρ2 → UT ρ1 → UT ρ2 → ((∃ w', w ≤ w' ∧ EI (t + np + 1) w' XC ρ1 ρ2) ∨ (EZ (t + np + 1) 179301 ρ1 ∧ EZ (t + np + 1) 179301 ρ2)) → K1 3 = nI n0 → K2 3 = nI n0 → K1 4 = nI pr → K2 4 = nI pr → K1 5 = nI t → K2 5 = nI t → K1 6 = nI i → K2 6 = nI i → K1 7 = x → K2 7 = x → T2 (fun k => x_giveBack k 11 K1 ρ1) (fun k => x_giveBack k 11 K2 ρ2) (GBq t w XC n0 τ1 τ2) := by
    intro q
    induction q with
    | zero =>
      intro i x ρ1 ρ2 K1 K2 hq hL f1 f2 V1 V2 hor k3 l3 k4 l4 k5 l5 k6 l6 k7 l7
      have hL : x = -1 := hL
      refine T2_suc (fun k => by rw [x_giveBack]) (fun k => by rw [x_giveBack]) ?_
      rw [k7, l7, hL]
      refine T2_ite Iff.rfl (fun _ _ => ?_) (fun z _ => absurd rfl z)
      exact b13 ρ1 ρ2 K1 K2 f1 f2 V1 V2 hor k3 l3 k4 l4 k5 l5
    | succ q ih =>
      intro i x ρ1 ρ2 K1 K2 hq hL f1 f2 V1 V2 hor k3 l3 k4 l4 k5 l5 k6 l6 k7 l7
      obtain ⟨e, xe, he, hT, _, hL⟩ := hL
      refine T2_suc (fun k => by rw [x_giveBack]) (fun k => by rw [x_giveBack]) ?_
      rw [k7, l7, xe]
      refine T2_ite Iff.rfl (fun z _ => absurd z (ne_m1 he)) (fun _ _ => ?_)
      rcases hor with ⟨w', hw, hJ⟩ | ⟨z1, z2⟩
      case inr =>
        refine T2_ite ⟨fun z => absurd z (EZ_e z1), fun z => absurd z (EZ_e z2)⟩ (fun z _ => absurd z (EZ_e z1)) (fun _ _ => ?_)
        exact b13 ρ1 ρ2 K1 K2 f1 f2 V1 V2 (Or.inr ⟨z1, z2⟩) k3 l3 k4 l4 k5 l5
      obtain ⟨e1, e2⟩ := EI_e hJ
      have S1 := Sc1_fs hS f1
      have S2 := Sc1_fs hS2 f2
      have r19' := rw19 ρ1 ρ2 f1 f2 19 (8 * pr + i) (Or.inr ⟨rfl, by omega, by rw [show (8 * pr + i) / 8 = pr by omega, t18, n_cl (p := np) (by omega)]; omega⟩)
      have b12 : ∀ (π1 π2 : MS), FSt τ1 π1 → FSt τ2 π2 → UT π1 → UT π2 → ((∃ w', w ≤ w' ∧ EI (t + np + 1) w' XC π1 π2) ∨ (EZ (t + np + 1) 179301 π1 ∧ EZ (t + np + 1) 179301 π2)) → T2 (fun k => x_giveBack k 12 K1 π1) (fun k => x_giveBack k 12 K2 π2) (GBq t w XC n0 τ1 τ2) := by
        intro π1 π2 g1 g2 X1 X2 hor
        refine T2_suc (fun k => by rw [x_giveBack]) (fun k => by rw [x_giveBack]) ?_
        rw [k7, l7, k6, l6, xe, n_add1]
        refine T2_chk (n_in (by omega) (by omega)) (n_in (by omega) (by omega)) ?_
        rw [n_cl (p := e) (by omega), (Sc1_fs hS g1).1.1.1 9 _ (by omega) (by omega) (by omega), (Sc1_fs hS2 g2).1.1.1 9 _ (by omega) (by omega) (by omega)]
        exact ih (i + 1) (T 9 e) π1 π2 _ _ (by omega) hL g1 g2 X1 X2 hor k3 l3 k4 l4 k5 l5 rfl rfl rfl rfl
      have e8 : (8 : Int32) * nI pr + nI i = nI (8 * pr + i) := by
        rw [show (8 : Int32) * nI pr = nI (8 * pr) from n_mulN 8 pr, n_add (by omega)]
      rw [e1, e2, k4, l4, k6, l6, k5, l5, e8]
      refine T2_ite Iff.rfl (fun _ _ => ?_) (fun z _ => absurd rfl z)
      refine T2_chk (n_in (by omega) (by omega)) (n_in (by omega) (by omega)) ?_
      rw [n_cl (p := 8 * pr + i) (by omega), r19'.1, r19'.2]
      refine T2_ite Iff.rfl (fun _ _ => b12 ρ1 ρ2 f1 f2 V1 V2 (Or.inl ⟨w', hw, hJ⟩)) (fun z _ => ?_)
      obtain ⟨k, ch, s, x5, hTg, hN, hk⟩ := hT z
      rw [xe] at x5
      rw [x5, n_add (p := t) (by omega)]
      refine T2_ob (E_writeWorked (t := t + np + 1) (p := t + i) hXC hTg hN (by omega) hk.2 (by omega) S1 hJ V1 V2 rfl rfl rfl rfl) (fun r1 r2 hr => ?_)
      obtain ⟨c1, c2, c3, c4, c5⟩ := hr
      exact b12 r1.2 r2.2 (FS_tr f1 c1) (FS_tr f2 c2) c3 c4 (c5.imp (fun ⟨w2, h2, h⟩ => ⟨w2, by omega, h⟩) id)
  refine T2_suc (fun k => by rw [x_giveBack]) (fun k => by rw [x_giveBack]) ?_
  rw [q3, p3]
  refine T2_chk (n_in (by omega) (by omega)) (n_in (by omega) (by omega)) ?_
  rw [n_cl (p := n0) (by omega), hS.1.1.1 6 _ (by omega) (by omega) (by omega), hS2.1.1.1 6 _ (by omega) (by omega) (by omega)]
  exact b11 np 0 (T 6 n0) τ1 τ2 _ _ (by omega) hA FS_rf FS_rf U1 U2 (Or.inl ⟨w, Nat.le_refl _, hI⟩) q3 p3 q4 p4 q5 p5 rfl rfl rfl rfl
end GBW
section GBA
variable {T : Nat → Nat → Int32} {FN : Nat → Nat → Prop} {t w XC pr np ns n0 l2 un0 : Nat} {F0 G : List Nat} {σ1 σ2 : MS} {x y : Int32}
/-- a call gives back -/
theorem E_giveBack (hXC : XC ≤ 402000) (ht : t + 9 + KBn T ≤ w + 17000) (hB : Bs T FN σ1) (hB' : Bs T FN σ2) (hI : EI t w XC σ1 σ2) (U1 : UT σ1) (U2 : UT σ2) (hl : l2 < 50) (hc : σ1.2.2 30 1 = nI (l2 + 1)) (h64 : σ1.2.2 30 (64 + 3 * l2) = nI n0) (h65 : σ1.2.2 30 (65 + 3 * l2) = nI pr) (h66 : σ1.2.2 30 (66 + 3 * l2) = nI F0.length) (hn0 : (1 ≤ n0 ∧ n0 < LNo T % 70001)) (hpr : pr < CNo T % 42) (hnp : np ≤ 8) (hns : ns ≤ 60) (t18 : T 18 pr = nI np) (t21 : T 21 (1 + pr) = nI ns) (t20 : ∀ s, ns ≤ s → s < 60 → T 20 (60 * (1 + pr) + s) = 0) (hlen : (G ++ F0).length ≤ 1050) (hsum : suI T (G ++ F0) ≤ 3100) (hG : ∀ m ∈ G, ∃ kk, ItL T FN (lcU (1 + pr) T) (cnU (1 + pr) T) kk (T 5 m)) (h2 : σ1.2.2 30 2 = nI (G ++ F0).length) (hF : FSk T (σ1.2.2 30) (G ++ F0)) (h3 : σ1.2.2 30 3 = nI (suI T (G ++ F0))) (hIt : ItS σ1 (suI T (G ++ F0))) (hL0 : LvU (σ1.2.2 30) l2 un0) (hA : ArL T FN (lcU un0 T) (cnU un0 T) pr np 0 (T 6 n0)) (h5 : T 5 n0 = -1 ∨ TgN T FN (lcU un0 T) (cnU un0 T) (T 5 n0)) (hV : ∀ τ1 τ2 : MS, EI t w XC τ1 τ2 → FCt (fun i => i = 2 ∨ i = 3) σ1 τ1 → FCt (fun i => i = 2 ∨ i = 3) σ2 τ2 → EI (t + 1) w XC (mPu τ1 t x) (mPu τ2 t y)) {L1 L2 : Nat → Int32} (d1 : L1 1 = x) (d2 : L2 1 = y) : T2 (fun k => x_giveBack k 0 L1 σ1) (fun k => x_giveBack k 0 L2 σ2) (fun r1 r2 => r1.1 = r2.1 ∧ FCt (fun i => i = 1 ∨ i = 2 ∨ i = 3) σ1 r1.2 ∧ FCt (fun i => i = 1 ∨ i = 2 ∨ i = 3) σ2 r2.2 ∧ UT r1.2 ∧ UT r2.2 ∧ ((r1.1 = nI n0 ∧ ∃ w', w ≤ w' ∧ EI t w' XC r1.2 r2.2 ∧ r1.2.2.2 30 1 = nI l2 ∧ r1.2.2.2 30 2 = nI F0.length ∧ r1.2.2.2 30 3 = nI (suI T F0) ∧ ItS r1.2 (suI T F0)) ∨ (r1.1 = -1 ∧ EZ t 179400 r1.2 ∧ EZ t 179400 r2.2))) := by
  have w6 := EI_w hI
  have lvc : LvU (σ1.2.2 30) (l2 + 1) (1 + pr) := Or.inr ⟨pr, by omega, rfl, by omega, by rw [Nat.add_sub_cancel]; exact h65⟩
  have hS := Sc1_lv hB hc (by omega) lvc
  have hS2 := Sc1_ei hS hI
  have s3 : suI T F0 ≤ 3100 := Nat.le_trans (suI_app (G := G)) hsum
  have k1 : σ2.2.2 30 1 = nI (l2 + 1) := (EI_30 hI (by unfold Zn; omega) (InA_4 (by omega))).trans hc
  have k64 : σ2.2.2 30 (64 + 3 * l2) = nI n0 := (EI_30 hI (by unfold Zn; omega) (InA_cl hc (by omega) (by omega))).trans h64
  have k65 : σ2.2.2 30 (65 + 3 * l2) = nI pr := (EI_30 hI (by unfold Zn; omega) (InA_cl hc (by omega) (by omega))).trans h65
  have e64 : (64 : Int32) + 3 * nI l2 = nI (64 + 3 * l2) := by
    rw [show (3 : Int32) * nI l2 = nI (3 * l2) from n_mulN 3 l2]; exact n_add (p := 64) (by omega)
  have e65 : nI (64 + 3 * l2) + 1 = nI (65 + 3 * l2) := by rw [n_add1]; congr 1; omega
  refine T2_suc (fun k => by rw [x_giveBack]) (fun k => by rw [x_giveBack]) ?_
  refine T2_chk (by decide) (by decide) ?_
  rw [show (1 : Int32).toNatClampNeg = 1 from by decide, hc, k1, n_sub1 (by omega), e64, e65]
  refine T2_chk (n_in (by omega) (by omega)) (n_in (by omega) (by omega)) ?_
  refine T2_chk (n_in (by omega) (by omega)) (n_in (by omega) (by omega)) ?_
  rw [n_cl (p := 64 + 3 * l2) (by omega), n_cl (p := 65 + 3 * l2) (by omega), h64, k64, h65, k65]
  refine E_gbClose (l2 := l2) hl rfl rfl hS hS2 hc h66 (fun τ1 τ2 hJ V1 V2 f1 f2 p2 p3 pit => ?_) G σ1 σ2 hlen hsum hG hI U1 U2 FC_rf FC_rf h2 hF h3 hIt
  have B1 := Bs_fc hB f1
  have cc : τ1.2.2 30 1 = nI (l2 + 1) := by rw [FC_30 f1 (by unfold Zn; omega) (by omega)]; exact hc
  have c65 : τ1.2.2 30 (65 + 3 * l2) = nI pr := by rw [FC_30 f1 (by unfold Zn; omega) (by omega)]; exact h65
  refine E_gbFrame (x := x) (y := y) (np := np) (ns := ns) (n0 := n0) (pr := pr) (by omega) hJ (hV τ1 τ2 hJ f1 f2) V1 V2 hl cc c65 (by omega) (STb_30 B1.1 hpr) (by omega) hns (by rw [B1.2.1 18 _ (by omega) (by omega) (by omega)]; exact t18) (by rw [B1.2.1 21 _ (by omega) (by omega) (by omega)]; exact t21) (fun s h1 h2 => by rw [B1.2.2.2.2.2.2]; exact t20 s h1 h2) (by exact d1) (by exact d2) rfl rfl rfl rfl rfl rfl (fun ρ1 ρ2 M1 M2 q3 p3' q4 p4 q5 p5 hK W1 W2 g1 g2 a1 it => ?_)
  have B2 := Bs_fc B1 g1
  have B3 := Bs_fc (Bs_fc hB' f2) g2
  have lv0 : LvU (ρ1.2.2 30) l2 un0 := by
    rcases hL0 with z | ⟨p, z1, z2, z3, z4⟩
    · exact Or.inl z
    · refine Or.inr ⟨p, z1, z2, z3, ?_⟩
      rw [FC_30 g1 (by unfold Zn; omega) (by omega), FC_30 f1 (by unfold Zn; omega) (by omega)]; exact z4
  have S0 := Sc1_lv B2 a1 (by omega) lv0
  refine T2_mono (E_gbWrites hXC ht hn0 hpr hnp S0 (fun a i h => ⟨B2.2.1 a i (by omega) (by omega) (by omega), B3.2.1 a i (by omega) (by omega) (by omega)⟩) hK W1 W2 t18 hA h5 q3 p3' q4 p4 q5 p5) (fun r1 r2 hr => ?_)
  obtain ⟨c1, c2, c3, c4, c5, c6⟩ := hr
  have F1 : FCt (fun i => i = 1 ∨ i = 2 ∨ i = 3) σ1 r1.2 := FC_tr (FC_mo (fun i hi => Or.inr hi) f1) (FC_tr (FC_mo (fun i hi => Or.inl hi) g1) (FC_fs c2))
  have F2 : FCt (fun i => i = 1 ∨ i = 2 ∨ i = 3) σ2 r2.2 := FC_tr (FC_mo (fun i hi => Or.inr hi) f2) (FC_tr (FC_mo (fun i hi => Or.inl hi) g2) (FC_fs c3))
  refine ⟨c1, F1, F2, c4, c5, c6.imp (fun ⟨z, w', hw, hE⟩ => ⟨z, w', hw, hE, ?_, ?_, ?_, ?_⟩) id⟩
  · rw [c2.2.1 30 1 (by unfold AlR; omega) (by unfold Zn; omega) (by omega)]; exact a1
  · rw [c2.2.1 30 2 (by unfold AlR; omega) (by unfold Zn; omega) (by omega), FC_30 g1 (by unfold Zn; omega) (by omega)]; exact p2
  · rw [c2.2.1 30 3 (by unfold AlR; omega) (by unfold Zn; omega) (by omega), FC_30 g1 (by unfold Zn; omega) (by omega)]; exact p3
  · have z3 : ρ1.2.2 30 3 = nI (suI T F0) := by rw [FC_30 g1 (by unfold Zn; omega) (by omega)]; exact p3
    exact ItS_fs c2 z3 s3 (Nat.le_refl _) (it _ s3 pit)
end GBA
end JnS247
section JnS248
/-! Statements (reference): the tree of statements, where a run stands in it. -/
/-- the body of a statement -/
def BdE (T : Nat → Nat → Int32) (S : Nat → Nat → Nat → Nat → Prop) (un d v m : Nat) (x : Int32) : Prop := x = -1 ∨ ∃ b v', x = nI b ∧ S un (d + 1) v' b ∧ v ≤ v' ∧ upN T b = nI m
/-- a for -/
def FoN (T : Nat → Nat → Int32) (FN : Nat → Nat → Prop) (S : Nat → Nat → Nat → Nat → Prop) (un d v n : Nat) : Prop := 1 ≤ itn T n ∧ v + itn T n ≤ 60 ∧ ItL T FN (lcU un T) (cnU un T) (itn T n) (T 5 n) ∧ (T 6 n = -1 ∨ Wx0 T FN (lcU un T) (T 6 n)) ∧ BdE T S un d (v + itn T n) n (T 7 n)
/-- a call -/
def CaN (T : Nat → Nat → Int32) (FN : Nat → Nat → Prop) (un n : Nat) : Prop := ∃ pr np ns, pr < CNo T % 42 ∧ T 7 n = nI pr ∧ T 18 pr = nI np ∧ np ≤ 8 ∧ T 21 (1 + pr) = nI ns ∧ ns ≤ 60 ∧ (∀ s, ns ≤ s → s < 60 → T 20 (60 * (1 + pr) + s) = 0) ∧ ArL T FN (lcU un T) (cnU un T) pr np 0 (T 6 n) ∧ (T 5 n = -1 ∨ TgN T FN (lcU un T) (cnU un T) (T 5 n))
/-- statements: unit, depth, variables told before, node -/
def SWf (T : Nat → Nat → Int32) (FN : Nat → Nat → Prop) (S : Nat → Nat → Nat → Nat → Prop) : Prop := ∀ un d v n, S un d v n → ((1 ≤ n ∧ n < LNo T % 70001) ∧ v ≤ 60 ∧ d ≤ 20 ∧ un ≤ 41) ∧ (∃ p, T 8 n = nI p ∧ p < SNo T % 402) ∧ (T 9 n = -1 ∨ ∃ n' v', T 9 n = nI n' ∧ S un d v' n' ∧ v ≤ v' ∧ upN T n' = upN T n) ∧ ((upN T n = -1 ∧ d = 0) ∨ ∃ m d' v', upN T n = nI m ∧ d = d' + 1 ∧ S un d' v' m ∧ v' + (if T 4 m = 48 then itn T m else 0) ≤ v ∧ (T 4 m = 46 ∨ T 4 m = 47 ∨ T 4 m = 48)) ∧ (T 4 n = 48 → d ≤ 19 ∧ FoN T FN S un d v n) ∧ (T 4 n = 45 → CaN T FN un n)
/-- where each call stands: n at the last; F the fors that are open -/
def LVs (T : Nat → Nat → Int32) (S : Nat → Nat → Nat → Nat → Prop) (A : Nat → Int32) : Nat → Nat → Nat → Nat → Nat → List Nat → Prop
  | 0, un, d, v, n, F => un = 0 ∧ S un d v n ∧ F = fls T d n
  | j + 1, un, d, v, n, F => S un d v n ∧ ∃ pr un0 d0 v0 n0 F0, un = 1 + pr ∧ pr < 41 ∧ A (64 + 3 * j) = nI n0 ∧ A (65 + 3 * j) = nI pr ∧ A (66 + 3 * j) = nI F0.length ∧ T 4 n0 = 45 ∧ T 7 n0 = nI pr ∧ F = fls T d n ++ F0 ∧ LVs T S A j un0 d0 v0 n0 F0
/-- a place in the run -/
def Pos (T : Nat → Nat → Int32) (S : Nat → Nat → Nat → Nat → Prop) (c un d v n : Nat) (F : List Nat) (σ : MS) : Prop := c ≤ 50 ∧ σ.2.2 30 1 = nI c ∧ LVs T S (σ.2.2 30) c un d v n F ∧ σ.2.2 30 2 = nI F.length ∧ FSk T (σ.2.2 30) F ∧ σ.2.2 30 3 = nI (suI T F) ∧ ItS σ (suI T F)
def CTn (T : Nat → Nat → Int32) (S : Nat → Nat → Nat → Nat → Prop) (σ : MS) : Prop := ∃ c un d v n F, Pos T S c un d v n F σ ∧ σ.2.2 30 0 = nI n
section LVL
variable {T : Nat → Nat → Int32} {FN : Nat → Nat → Prop} {S : Nat → Nat → Nat → Nat → Prop} {A A' : Nat → Int32}
theorem fls_u {d n n' : Nat} (h : upN T n' = upN T n) : fls T d n' = fls T d n := by
  cases d with
  | zero => rfl
  | succ d => unfold fls; rw [h]
theorem fls_s {d n m : Nat} (hm : (1 ≤ m ∧ m < LNo T % 70001)) (h : upN T n = nI m) : fls T (d + 1) n = if T 4 m = 48 then m :: fls T d m else fls T d m := by
  show (if T 4 (upN T n).toNatClampNeg = 48 then (upN T n).toNatClampNeg :: fls T d (upN T n).toNatClampNeg else fls T d (upN T n).toNatClampNeg) = _
  rw [h, n_cl (p := m) (by omega)]
theorem fls_b (hW : SWf T FN S) {un : Nat} : ∀ {d v n : Nat}, S un d v n → (fls T d n).length ≤ d ∧ suI T (fls T d n) ≤ v ∧ ∀ m ∈ fls T d n, ∃ kk, ItL T FN (lcU un T) (cnU un T) kk (T 5 m) := by
  intro d
  induction d with
  | zero => intro v n h; exact ⟨Nat.le_refl _, Nat.zero_le _, fun m hm => absurd hm (List.not_mem_nil)⟩
  | succ d ih =>
    intro v n h
    obtain ⟨_, _, _, hu, _⟩ := hW un (d + 1) v n h
    rcases hu with ⟨_, z⟩ | ⟨m, d', v', hu, ed, hm, hv, _⟩
    · omega
    · have e : d' = d := by omega
      subst e
      obtain ⟨⟨m7, _⟩, _, _, _, h48, _⟩ := hW un d' v' m hm
      obtain ⟨i1, i2, i3⟩ := ih hm
      rw [fls_s m7 hu]
      by_cases c : T 4 m = 48
      · rw [if_pos c] at hv ⊢
        refine ⟨by show (fls T d' m).length + 1 ≤ _; omega, by show itn T m + suI T (fls T d' m) ≤ v; omega, fun q hq => ?_⟩
        rcases List.mem_cons.mp hq with e | e
        · rw [e]; exact ⟨_, (h48 c).2.2.2.1⟩
        · exact i3 q e
      · rw [if_neg c] at hv ⊢
        exact ⟨by omega, by omega, i3⟩
theorem suI_ad {G F : List Nat} : suI T (G ++ F) = suI T G + suI T F := by
  induction G with
  | nil => show suI T F = 0 + suI T F; omega
  | cons m G ih => show itn T m + suI T (G ++ F) = itn T m + suI T G + suI T F; omega
theorem LVs_S {c un d v n : Nat} {F : List Nat} (h : LVs T S A c un d v n F) : S un d v n := by
  cases c with
  | zero => exact h.2.1
  | succ c => exact h.1
theorem LVs_b (hW : SWf T FN S) : ∀ {c un d v n : Nat} {F : List Nat}, LVs T S A c un d v n F → F.length ≤ 20 * c + d ∧ suI T F ≤ 60 * c + v := by
  intro c
  induction c with
  | zero =>
    intro un d v n F h
    obtain ⟨_, hS, e⟩ := h
    obtain ⟨i1, i2, _⟩ := fls_b hW hS
    rw [e]; exact ⟨by omega, by omega⟩
  | succ c ih =>
    intro un d v n F h
    obtain ⟨hS, pr, un0, d0, v0, n0, F0, _, _, _, _, _, _, _, e, hL⟩ := h
    obtain ⟨i1, i2, _⟩ := fls_b hW hS
    obtain ⟨j1, j2⟩ := ih hL
    obtain ⟨⟨_, b1, b2, _⟩, _⟩ := hW un0 d0 v0 n0 (LVs_S hL)
    rw [e, List.length_append, suI_ad]
    exact ⟨by omega, by omega⟩
theorem LVs_c : ∀ {c un d v n : Nat} {F : List Nat}, c ≤ 50 → (∀ i, 64 ≤ i → i < 214 → A' i = A i) → LVs T S A c un d v n F → LVs T S A' c un d v n F := by
  intro c
  induction c with
  | zero => intro un d v n F _ _ h; exact h
  | succ c ih =>
    intro un d v n F hc ha h
    obtain ⟨hS, pr, un0, d0, v0, n0, F0, h1, h2, h3, h4, h5, h6, h7, h8, h9⟩ := h
    exact ⟨hS, pr, un0, d0, v0, n0, F0, h1, h2, by rw [ha _ (by omega) (by omega)]; exact h3, by rw [ha _ (by omega) (by omega)]; exact h4, by rw [ha _ (by omega) (by omega)]; exact h5, h6, h7, h8, ih (by omega) ha h9⟩
/-- another statement with the same fors around -/
theorem LVs_m {c un d v n d' v' n' : Nat} {F : List Nat} (h : LVs T S A c un d v n F) (hS : S un d' v' n') : ∃ F0, F = fls T d n ++ F0 ∧ LVs T S A c un d' v' n' (fls T d' n' ++ F0) := by
  cases c with
  | zero => exact ⟨[], by rw [List.append_nil]; exact h.2.2, h.1, hS, by rw [List.append_nil]⟩
  | succ c =>
    obtain ⟨_, pr, un0, d0, v0, n0, F0, h1, h2, h3, h4, h5, h6, h7, h8, h9⟩ := h
    exact ⟨F0, h8, hS, pr, un0, d0, v0, n0, F0, h1, h2, h3, h4, h5, h6, h7, rfl, h9⟩
theorem LVs_sib {c un d v n v' n' : Nat} {F : List Nat} (h : LVs T S A c un d v n F) (hS : S un d v' n') (hu : upN T n' = upN T n) : LVs T S A c un d v' n' F := by
  obtain ⟨F0, e, h'⟩ := LVs_m h hS
  rw [e, ← fls_u hu]; exact h'
theorem LVs_up {c un d v n m v' : Nat} {F : List Nat} (hm : (1 ≤ m ∧ m < LNo T % 70001)) (h : LVs T S A c un (d + 1) v n F) (hu : upN T n = nI m) (hS : S un d v' m) : ∃ F', LVs T S A c un d v' m F' ∧ F = if T 4 m = 48 then m :: F' else F' := by
  obtain ⟨F0, e, h'⟩ := LVs_m h hS
  refine ⟨_, h', ?_⟩
  rw [e, fls_s hm hu]
  by_cases c : T 4 m = 48
  · rw [if_pos c, if_pos c]; rfl
  · rw [if_neg c, if_neg c]
theorem LVs_dn {c un d v m b v' : Nat} {F : List Nat} (hm : (1 ≤ m ∧ m < LNo T % 70001)) (h : LVs T S A c un d v m F) (hu : upN T b = nI m) (hS : S un (d + 1) v' b) : LVs T S A c un (d + 1) v' b (if T 4 m = 48 then m :: F else F) := by
  obtain ⟨F0, e, h'⟩ := LVs_m h hS
  rw [fls_s hm hu] at h'
  rw [e]
  by_cases c : T 4 m = 48
  · rw [if_pos c] at h' ⊢; exact h'
  · rw [if_neg c] at h' ⊢; exact h'
theorem LVs_u {c un d v n : Nat} {F : List Nat} (h : LVs T S A c un d v n F) : LvU A c un := by
  cases c with
  | zero => exact Or.inl ⟨rfl, h.1⟩
  | succ c =>
    obtain ⟨_, pr, un0, d0, v0, n0, F0, h1, h2, h3, h4, _⟩ := h
    exact Or.inr ⟨pr, by omega, h1, h2, by rw [Nat.add_sub_cancel]; exact h4⟩
end LVL
section PSS
variable {T : Nat → Nat → Int32} {FN : Nat → Nat → Prop} {S : Nat → Nat → Nat → Nat → Prop} {σ ρ : MS} {c un d v n : Nat} {F : List Nat}
theorem Pos_b (hW : SWf T FN S) (h : Pos T S c un d v n F σ) : F.length ≤ 20 * c + d ∧ suI T F ≤ 60 * c + v ∧ ((1 ≤ n ∧ n < LNo T % 70001) ∧ v ≤ 60 ∧ d ≤ 20) ∧ F.length ≤ 1020 ∧ suI T F ≤ 3060 := by
  obtain ⟨h1, _, h3, _⟩ := h
  obtain ⟨a, b⟩ := LVs_b hW h3
  obtain ⟨⟨b0, b1, b2, _⟩, _⟩ := hW un d v n (LVs_S h3)
  exact ⟨a, b, ⟨b0, b1, b2⟩, by omega, by omega⟩
theorem Pos_sc (hB : Bs T FN σ) (h : Pos T S c un d v n F σ) : Sc1 T FN (lcU un T) (cnU un T) σ := Sc1_lv hB h.2.1 h.1 (LVs_u h.2.2.1)
/-- the same numbers: the same place -/
theorem Pos_fs (hW : SWf T FN S) (hF : FSt σ ρ) (h : Pos T S c un d v n F σ) : Pos T S c un d v n F ρ := by
  obtain ⟨_, _, _, b3, b4⟩ := Pos_b hW h
  obtain ⟨h1, h2, h3, h4, h5, h6, h7⟩ := h
  have e : ∀ i, ¬ Zn 30 i → ρ.2.2 30 i = σ.2.2 30 i := fun i hi => hF.2.1 30 i (by unfold AlR; omega) hi (by omega)
  exact ⟨h1, (e 1 (by unfold Zn; omega)).trans h2, LVs_c h1 (fun i a b => e i (by unfold Zn; omega)) h3, (e 2 (by unfold Zn; omega)).trans h4, FSk_c (by omega) (fun i a b => e i (by unfold Zn; omega)) h5, (e 3 (by unfold Zn; omega)).trans h6, ItS_fs hF h6 (by omega) (Nat.le_refl _) h7⟩
/-- the place is told -/
theorem Pos_0 (hW : SWf T FN S) {x : Int32} (h : Pos T S c un d v n F σ) : Pos T S c un d v n F (mAr σ 30 0 x) := by
  obtain ⟨_, _, _, b3, b4⟩ := Pos_b hW h
  obtain ⟨h1, h2, h3, h4, h5, h6, h7⟩ := h
  have o : ∀ j, j ≠ 0 → (mAr σ 30 0 x).2.2 30 j = σ.2.2 30 j := fun j hj => by rw [mAr_s, upd_other hj]
  exact ⟨h1, (o 1 (by omega)).trans h2, LVs_c h1 (fun i a b => o i (by omega)) h3, (o 2 (by omega)).trans h4, FSk_c (by omega) (fun i a b => o i (by omega)) h5, (o 3 (by omega)).trans h6, ItS_c (σ := σ) (by omega) (mAr_o (by decide)) (fun i hi => o i (by omega)) h7⟩
theorem Pos_lv {un' d' v' n' : Nat} (h : Pos T S c un d v n F σ) (hL : LVs T S (σ.2.2 30) c un' d' v' n' F) : Pos T S c un' d' v' n' F σ := ⟨h.1, h.2.1, hL, h.2.2.2⟩
end PSS
end JnS248
section JnS249
/-! Statements on both sides (reference): what is done behind a statement. -/
/-- numbers of a place -/
def PlA (T : Nat → Nat → Int32) (S : Nat → Nat → Nat → Nat → Prop) (A : Nat → Int32) (c un d v n : Nat) (F : List Nat) : Prop := c ≤ 50 ∧ A 1 = nI c ∧ LVs T S A c un d v n F ∧ A 2 = nI F.length ∧ FSk T A F ∧ A 3 = nI (suI T F) ∧ F.length ≤ 1050
theorem PlA_c {T : Nat → Nat → Int32} {S : Nat → Nat → Nat → Nat → Prop} {A A' : Nat → Int32} {c un d v n : Nat} {F : List Nat} (h : PlA T S A c un d v n F) (e : ∀ i, i < 4 ∨ (64 ≤ i ∧ i < 214) ∨ (3214 ≤ i ∧ i < 5314) → A' i = A i) : PlA T S A' c un d v n F := by
  obtain ⟨h1, h2, h3, h4, h5, h6, h7⟩ := h
  exact ⟨h1, (e 1 (by omega)).trans h2, LVs_c h1 (fun i a b => e i (by omega)) h3, (e 2 (by omega)).trans h4, FSk_c h7 (fun i a b => e i (by omega)) h5, (e 3 (by omega)).trans h6, h7⟩
/-- the points: each is a place, of a statement that makes one -/
def PtQ (T : Nat → Nat → Int32) (S : Nat → Nat → Nat → Nat → Prop) (σ : MS) : Prop := ∀ p, p < (σ.1 63).toNatClampNeg → ∃ c un d v n F, PlA T S (fun i => σ.2.2 31 (11514 * p + i)) c un d v n F ∧ σ.2.2 31 (11514 * p + 0) = nI n ∧ (T 4 n = 44 ∨ T 4 n = 46)
theorem PtQ_fc {T : Nat → Nat → Int32} {S : Nat → Nat → Nat → Nat → Prop} {I : Nat → Prop} {σ ρ : MS} (h : PtQ T S σ) (f : FCt I σ ρ) : PtQ T S ρ := by
  have e : ∀ p i, i < 4 ∨ (64 ≤ i ∧ i < 214) ∨ (3214 ≤ i ∧ i < 5314) → ρ.2.2 31 (11514 * p + i) = σ.2.2 31 (11514 * p + i) := fun p i hi => f.2.1 31 _ (by unfold AlR; omega) (by unfold Zn; omega) (by omega) (by omega)
  intro p hp
  rw [f.1 63 (by unfold AlS; omega) (by omega) (by omega) (by omega) (by omega)] at hp
  obtain ⟨c, un, d, v, n, F, h1, h2, h3⟩ := h p hp
  exact ⟨c, un, d, v, n, F, PlA_c h1 (fun i hi => e p i hi), (e p 0 (by omega)).trans h2, h3⟩
/-- how much is put out -/
def Ou6 (σ : MS) : Prop := ∃ o, σ.1 106 = nI o ∧ o ≤ 2000000000
theorem Ou6_fc {I : Nat → Prop} {σ ρ : MS} (h : Ou6 σ) (f : FCt I σ ρ) : Ou6 ρ := by
  obtain ⟨o, o1, o2⟩ := h
  exact ⟨o, (f.1 106 (by unfold AlS; omega) (by omega) (by omega) (by omega) (by omega)).trans o1, o2⟩
/-- midway in a statement -/
def Mid (T : Nat → Nat → Int32) (FN : Nat → Nat → Prop) (S : Nat → Nat → Nat → Nat → Prop) (t w XC : Nat) (σ1 σ2 τ1 τ2 : MS) : Prop := EI t w XC τ1 τ2 ∧ UT τ1 ∧ UT τ2 ∧ Bs T FN τ1 ∧ Bs T FN τ2 ∧ (∀ j, j = 103 ∨ j = 104 ∨ j = 110 ∨ j = 68 → τ1.1 j = σ1.1 j ∧ τ2.1 j = σ2.1 j) ∧ PtQ T S τ1 ∧ Ou6 τ1
/-- behind a statement -/
def OuQ (T : Nat → Nat → Int32) (FN : Nat → Nat → Prop) (S : Nat → Nat → Nat → Nat → Prop) (t w XC : Nat) (σ1 σ2 r1 r2 : MS) : Prop := (∃ w', w ≤ w' ∧ Mid T FN S t w' XC σ1 σ2 r1 r2 ∧ (CTn T S r1 ∨ r1.1 102 = 1)) ∨ ((UT r1 ∧ UT r2 ∧ Bs T FN r1 ∧ Bs T FN r2 ∧ ∀ j, j = 103 ∨ j = 104 ∨ j = 110 ∨ j = 68 → r1.1 j = σ1.1 j ∧ r2.1 j = σ2.1 j) ∧ EZ t 179400 r1 ∧ EZ t 179400 r2)
section MDS
variable {T : Nat → Nat → Int32} {FN : Nat → Nat → Prop} {S : Nat → Nat → Nat → Nat → Prop} {t w w' XC : Nat} {σ1 σ2 τ1 τ2 r1 r2 : MS} {I : Nat → Prop}
theorem kp_fc (h : ∀ j, j = 103 ∨ j = 104 ∨ j = 110 ∨ j = 68 → τ1.1 j = σ1.1 j ∧ τ2.1 j = σ2.1 j) (f1 : FCt I τ1 r1) (f2 : FCt I τ2 r2) : ∀ j, j = 103 ∨ j = 104 ∨ j = 110 ∨ j = 68 → r1.1 j = σ1.1 j ∧ r2.1 j = σ2.1 j := fun j hj => ⟨(f1.1 j (by unfold AlS; omega) (by omega) (by omega) (by omega) (by omega)).trans (h j hj).1, (f2.1 j (by unfold AlS; omega) (by omega) (by omega) (by omega) (by omega)).trans (h j hj).2⟩
theorem Mid_fc {t0 XC0 : Nat} (h : Mid T FN S t0 w XC0 σ1 σ2 τ1 τ2) (f1 : FCt I τ1 r1) (f2 : FCt I τ2 r2) (hE : EI t w' XC r1 r2) (V1 : UT r1) (V2 : UT r2) : Mid T FN S t w' XC σ1 σ2 r1 r2 := ⟨hE, V1, V2, Bs_fc h.2.2.2.1 f1, Bs_fc h.2.2.2.2.1 f2, kp_fc h.2.2.2.2.2.1 f1 f2, PtQ_fc h.2.2.2.2.2.2.1 f1, Ou6_fc h.2.2.2.2.2.2.2 f1⟩
theorem OuQ_z {b t0 XC0 : Nat} (h : Mid T FN S t0 w' XC0 σ1 σ2 τ1 τ2) (f1 : FCt I τ1 r1) (f2 : FCt I τ2 r2) (V1 : UT r1) (V2 : UT r2) (hb : b ≤ 179400) (z1 : EZ t b r1) (z2 : EZ t b r2) : OuQ T FN S t w XC σ1 σ2 r1 r2 := Or.inr ⟨⟨V1, V2, Bs_fc h.2.2.2.1 f1, Bs_fc h.2.2.2.2.1 f2, kp_fc h.2.2.2.2.2.1 f1 f2⟩, EZ_mo z1 (Nat.le_refl _) hb, EZ_mo z2 (Nat.le_refl _) hb⟩
/-- the place is told: both go on there -/
theorem Mid_0 {x : Int32} (h : Mid T FN S t w XC σ1 σ2 τ1 τ2) : Mid T FN S t w XC σ1 σ2 (mAr τ1 30 0 x) (mAr τ2 30 0 x) := Mid_fc (I := fun i => i = 0) h (FC_w rfl) (FC_w rfl) (EI_c30 (by unfold Zn; omega) h.1) (UT_c30 (by unfold Zn; omega) (EI_B h.1).1 h.2.1) (UT_c30 (by unfold Zn; omega) (EI_B h.1).2 h.2.2.1)
theorem OuQ_0 (hW : SWf T FN S) {c un d v n : Nat} {F : List Nat} (hw : w ≤ w') (h : Mid T FN S t w' XC σ1 σ2 τ1 τ2) (hP : Pos T S c un d v n F τ1) : OuQ T FN S t w XC σ1 σ2 (mAr τ1 30 0 (nI n)) (mAr τ2 30 0 (nI n)) := Or.inl ⟨w', hw, Mid_0 h, Or.inl ⟨c, un, d, v, n, F, Pos_0 hW hP, by rw [mAr_s, upd_same]⟩⟩
end MDS
/-- within the block of x (-1: of a unit) -/
def InP (T : Nat → Nat → Int32) (S : Nat → Nat → Nat → Nat → Prop) (c un d : Nat) (x : Int32) (F : List Nat) (σ : MS) : Prop := c ≤ 50 ∧ σ.2.2 30 1 = nI c ∧ σ.2.2 30 2 = nI F.length ∧ FSk T (σ.2.2 30) F ∧ σ.2.2 30 3 = nI (suI T F) ∧ ItS σ (suI T F) ∧ F.length ≤ 1020 ∧ suI T F ≤ 3060 ∧ ((x = -1 ∧ d = 0 ∧ (c = 0 ∨ ∃ j pr un0 d0 v0 n0, c = j + 1 ∧ un = 1 + pr ∧ pr < 41 ∧ σ.2.2 30 (64 + 3 * j) = nI n0 ∧ σ.2.2 30 (65 + 3 * j) = nI pr ∧ σ.2.2 30 (66 + 3 * j) = nI F.length ∧ T 4 n0 = 45 ∧ T 7 n0 = nI pr ∧ LVs T S (σ.2.2 30) j un0 d0 v0 n0 F)) ∨ ∃ m d' v' F', x = nI m ∧ d = d' + 1 ∧ LVs T S (σ.2.2 30) c un d' v' m F' ∧ F = (if T 4 m = 48 then m :: F' else F') ∧ (T 4 m = 46 ∨ T 4 m = 47 ∨ T 4 m = 48))
theorem Pos_in {T : Nat → Nat → Int32} {FN : Nat → Nat → Prop} {S : Nat → Nat → Nat → Nat → Prop} {c un d v n : Nat} {F : List Nat} {σ : MS} (hW : SWf T FN S) (hP : Pos T S c un d v n F σ) : InP T S c un d (upN T n) F σ := by
  obtain ⟨_, _, _, b3, b4⟩ := Pos_b hW hP
  obtain ⟨h1, h2, h3, h4, h5, h6, h7⟩ := hP
  have hS := LVs_S h3
  obtain ⟨_, _, _, hu, _, _⟩ := hW un d v n hS
  refine ⟨h1, h2, h4, h5, h6, h7, b3, b4, ?_⟩
  rcases hu with ⟨um, d0⟩ | ⟨m, d', v', um, ed, hSm, hvm, km⟩
  · refine Or.inl ⟨um, d0, ?_⟩
    cases c with
    | zero => exact Or.inl rfl
    | succ j =>
      obtain ⟨_, pr, un0, dd0, vv0, n0, F0, g1, g2, g3, g4, g5, g6, g7, g8, g9⟩ := h3
      have eF : F = F0 := by rw [g8, d0]; rfl
      subst eF
      exact Or.inr ⟨j, pr, un0, dd0, vv0, n0, rfl, g1, g2, g3, g4, g5, g6, g7, g9⟩
  · subst ed
    obtain ⟨⟨m7, _⟩, _⟩ := hW un d' v' m hSm
    obtain ⟨F', hL', eF⟩ := LVs_up m7 h3 um hSm
    exact Or.inr ⟨m, d', v', F', um, rfl, hL', eF, km⟩
section DON
variable {T : Nat → Nat → Int32} {FN : Nat → Nat → Prop} {S : Nat → Nat → Nat → Nat → Prop} {t w XC : Nat} {σ1 σ2 : MS}
/-- what is around a statement is done -/
theorem E_done (hW : SWf T FN S) (hXC : XC ≤ 401000) (ht : t + 9 + KBn T ≤ w + 17000) {c un d w' : Nat} {x : Int32} {F : List Nat} {τ1 τ2 : MS} (hw : w ≤ w') (hM : Mid T FN S t w' XC σ1 σ2 τ1 τ2) (hP : InP T S c un d x F τ1) {L1 L2 : Nat → Int32} (d1 : L1 1 = x) (d2 : L2 1 = x) : T2 (fun k => x_done k 0 L1 τ1) (fun k => x_done k 0 L2 τ2) (fun r1 r2 => r1.1 = r2.1 ∧ ((r1.1 = -1 ∧ OuQ T FN S t w XC σ1 σ2 r1.2 r2.2) ∨ ∃ c' un' d' v' n' F' w2, r1.1 = nI n' ∧ w ≤ w2 ∧ Mid T FN S t w2 XC σ1 σ2 r1.2 r2.2 ∧ Pos T S c' un' d' v' n' F' r1.2 ∧ 21 * c' + d' < 21 * c + d)) := by
  obtain ⟨hE, U1, U2, B1, B2, kp⟩ := id hM
  have w6 := EI_w hE
  obtain ⟨hc5, hc, h2, hF, h3, hIt, pb3, pb4, hu⟩ := id hP
  obtain ⟨e1, e2⟩ := EI_e hE
  refine T2_suc (fun k => by rw [x_done]) (fun k => by rw [x_done]) ?_
  rw [e1, e2]
  refine T2_ite Iff.rfl (fun _ _ => ?_) (fun z _ => absurd (by decide) z)
  refine T2_suc (fun k => by rw [x_done]) (fun k => by rw [x_done]) ?_
  rw [d1, d2]
  rcases hu with ⟨um, d0, hu⟩ | ⟨m, d', v', F', um, ed, hL', eF, km⟩
  · -- the end of a unit
    rw [um]
    refine T2_ite Iff.rfl (fun _ _ => ?_) (fun z _ => absurd rfl z)
    refine T2_chk (by decide) (by decide) ?_
    rw [show (1 : Int32).toNatClampNeg = 1 from by decide, EI_30 hE (i := 1) (by unfold Zn; omega) (InA_4 (by omega)), hc]
    refine T2_ite Iff.rfl (fun z _ => ?_) (fun z _ => ?_)
    · refine T2_suc (fun k => by rw [x_done]) (fun k => by rw [x_done]) ?_
      refine T2_suc (fun k => by rw [x_done]) (fun k => by rw [x_done]) ?_
      have bs : ∀ σ : MS, Bs T FN σ → Bs T FN (mSc σ 102 1) := fun σ h => ⟨h.1, h.2.1, h.2.2.1, h.2.2.2.1, h.2.2.2.2.1, h.2.2.2.2.2⟩
      refine T2_some ⟨rfl, Or.inl ⟨rfl, Or.inl ⟨w', hw, ⟨EI_s (by omega) hE, UT_c U1 rfl rfl rfl rfl, UT_c U2 rfl rfl rfl rfl, bs _ B1, bs _ B2, fun j hj => ?_, kp.2⟩, Or.inr rfl⟩⟩⟩
      have := kp.1 j hj
      exact ⟨(upd_other (by omega)).trans this.1, (upd_other (by omega)).trans this.2⟩
    · have cp : 1 ≤ c := by
        by_cases y : c = 0
        · exact absurd ((n_le0 (by omega)).mpr y) z
        · omega
      obtain ⟨j, pr, un0, dd0, vv0, n0, ec, g1, g2, g3, g4, g5, g6, g7, g9⟩ := hu.resolve_left (by omega)
      subst ec
      have hS0 := LVs_S g9
      obtain ⟨⟨n07, _, dd20, _⟩, _, _, _, _, h45⟩ := hW un0 dd0 vv0 n0 hS0
      obtain ⟨pr', np, ns, y1, y2, y3, y4, y5, y6, y7, y8, y9⟩ := h45 g6
      have epr : pr' = pr := (n_eq (by omega) (by omega)).mp (y2.symm.trans g7)
      subst epr
      refine T2_ob (E_giveBack (x := 0) (y := 0) (G := []) (F0 := F) (l2 := j) (n0 := n0) (un0 := un0) (by omega) (by omega) B1 B2 hE U1 U2 (by omega) hc g3 g4 g5 n07 y1 y4 y6 y3 y5 y7 (show F.length ≤ 1050 by omega) (show suI T F ≤ 3100 by omega) (fun m hm => absurd hm (List.not_mem_nil)) h2 hF h3 hIt (LVs_u g9) y8 y9 (fun ρ1 ρ2 hJ _ _ => EI_pu0 (by omega) hJ) rfl rfl) (fun r1 r2 hr => ?_)
      obtain ⟨c1, c2, c3, c4, c5, c6⟩ := hr
      refine T2_some ⟨c1, ?_⟩
      rcases c6 with ⟨z1, w2, hw2, hK, k1, k2, k3, k4⟩ | ⟨z1, z2, z3⟩
      · refine Or.inr ⟨j, un0, dd0, vv0, n0, F, w2, z1, by omega, Mid_fc hM c2 c3 hK c4 c5, ⟨by omega, k1, LVs_c (by omega) (fun i h1 h2 => FC_30 c2 (by unfold Zn; omega) (by omega)) g9, k2, FSk_c (by omega) (fun i h1 h2 => FC_30 c2 (by unfold Zn; omega) (by omega)) hF, k3, k4⟩, by omega⟩
      · exact Or.inl ⟨z1, OuQ_z hM c2 c3 c4 c5 (Nat.le_refl _) z2 z3⟩
  · subst ed
    have hSm := LVs_S hL'
    obtain ⟨⟨m7, vm6, dm20, _⟩, _, _, _, h48, _⟩ := hW un d' v' m hSm
    have hSc := Sc1_lv B1 hc hc5 (LVs_u hL')
    have r4 := B1.1.1 4 m (by omega) (by omega) (by omega)
    have B2' := B2.1.1 4 m (by omega) (by omega) (by omega)
    rw [um]
    refine T2_ite Iff.rfl (fun z _ => absurd z (ne_m1 m7)) (fun _ _ => ?_)
    refine T2_suc (fun k => by rw [x_done]) (fun k => by rw [x_done]) ?_
    rw [d1, d2, um]
    refine T2_chk (n_in (by omega) (by omega)) (n_in (by omega) (by omega)) ?_
    rw [n_cl (p := m) (by omega), B2', r4]
    refine T2_ite Iff.rfl (fun k47 _ => ?_) (fun k47 _ => ?_)
    · have e48 : ¬ T 4 m = 48 := by rw [k47]; decide
      rw [if_neg e48] at eF
      subst eF
      refine T2_chk (by decide) (by decide) ?_
      rw [show (0 : Int32).toNatClampNeg = 0 from by decide]
      refine T2_suc (fun k => by rw [x_done]) (fun k => by rw [x_done]) ?_
      exact T2_some ⟨rfl, Or.inl ⟨rfl, OuQ_0 hW hw hM ⟨hc5, hc, hL', h2, hF, h3, hIt⟩⟩⟩
    · refine T2_suc (fun k => by rw [x_done]) (fun k => by rw [x_done]) ?_
      rw [d1, d2, um]
      refine T2_chk (n_in (by omega) (by omega)) (n_in (by omega) (by omega)) ?_
      rw [n_cl (p := m) (by omega), B2', r4]
      refine T2_ite Iff.rfl (fun k48 _ => ?_) (fun k48 _ => ?_)
      · rw [if_pos k48] at eF
        subst eF
        obtain ⟨d19, f1, f2, f3, f4, f5⟩ := h48 k48
        have es : suI T (m :: F') = suI T F' + itn T m := Nat.add_comm _ _
        rw [es] at h3 hIt pb4
        have eb : suI T F' ≤ 60 * c + v' := (LVs_b hW hL').2
        have el : F'.length + 1 ≤ 1050 := by have : (m :: F').length = F'.length + 1 := rfl; omega
        refine T2_ob (E_seek (c := itn T m) (go := 0) (F := F') hXC (by omega) m7 f3 ⟨f1, by omega⟩ (by omega) el f4 hSc hE U1 U2 h2 hF h3 hIt (Nat.le_refl _) (fun z => absurd rfl z) rfl rfl rfl rfl) (fun r1 r2 hr => ?_)
        obtain ⟨c1, c2, c3, c4, c5, c6⟩ := hr
        refine T2_suc (fun k => by rw [x_done]) (fun k => by rw [x_done]) ?_
        refine T2_some ⟨c1, ?_⟩
        have lc : ∀ i, 64 ≤ i → i < 214 → r1.2.2.2 30 i = τ1.2.2 30 i := fun i h1 h2 => FC_30 c2 (by unfold Zn; omega) (by unfold Isk Inx; omega)
        have c11 : r1.2.2.2 30 1 = nI c := (FC_30 c2 (by unfold Zn; omega) (by unfold Isk Inx; omega)).trans hc
        have fk : ∀ i, 3214 ≤ i → i < 5314 → r1.2.2.2 30 i = τ1.2.2 30 i := fun i h1 h2 => FC_30 c2 (by unfold Zn; omega) (by unfold Isk Inx; omega)
        rcases c6 with ⟨z1, z7, w2, hw2, hK, k0, k2, k3, k4⟩ | ⟨z1, w2, hw2, hK, k2, k3, k4⟩ | ⟨z1, z2, z3⟩
        · obtain ⟨b, vb, xb, hSb, hvb, ub⟩ := f5.resolve_left z7
          have hD := LVs_dn m7 hL' ub hSb
          rw [if_pos k48] at hD
          refine Or.inl ⟨z1, Or.inl ⟨w2, by omega, Mid_fc hM c2 c3 hK c4 c5, Or.inl ⟨c, un, d' + 1, vb, b, m :: F', ⟨hc5, c11, LVs_c hc5 lc hD, k2, FSk_c el fk hF, by rw [es]; exact k3, by rw [es]; exact k4⟩, k0.trans xb⟩⟩⟩
        · exact Or.inr ⟨c, un, d', v', m, F', w2, z1, by omega, Mid_fc hM c2 c3 hK c4 c5, ⟨hc5, c11, LVs_c hc5 lc hL', k2, FSk_c (by omega) fk hF.2, k3, k4⟩, by omega⟩
        · exact Or.inl ⟨z1, OuQ_z hM c2 c3 c4 c5 (by omega) z2 z3⟩
      · rw [if_neg k48] at eF
        subst eF
        refine T2_suc (fun k => by rw [x_done]) (fun k => by rw [x_done]) ?_
        refine T2_suc (fun k => by rw [x_done]) (fun k => by rw [x_done]) ?_
        rw [d1, d2, um]
        exact T2_some ⟨rfl, Or.inr ⟨c, un, d', v', m, F, w', rfl, hw, hM, ⟨hc5, hc, hL', h2, hF, h3, hIt⟩, by omega⟩⟩
end DON
end JnS249
section JnS250
/-! Statements on both sides (reference): blocks are finished, a statement is passed. -/
section PAS
variable {T : Nat → Nat → Int32} {FN : Nat → Nat → Prop} {S : Nat → Nat → Nat → Nat → Prop} {t w XC : Nat} {σ1 σ2 : MS}
/-- a block is finished -/
theorem E_fin (hW : SWf T FN S) (hXC : XC ≤ 401000) (ht : t + 9 + KBn T ≤ w + 17000) : ∀ (M c un d w' : Nat) (x : Int32) (F : List Nat) (τ1 τ2 : MS) (N1 N2 : Nat → Int32), 21 * c + d ≤ M → w ≤ w' → Mid T FN S t w' XC σ1 σ2 τ1 τ2 → InP T S c un d x F τ1 → N1 2 = x → N2 2 = x → N1 3 = 1 → N2 3 = 1 → T2 (fun k => x_finished k 1 N1 τ1) (fun k => x_finished k 1 N2 τ2) (fun r1 r2 => OuQ T FN S t w XC σ1 σ2 r1.2 r2.2) := by
  have fend : ∀ (ρ : MS) (K : Nat → Int32), K 3 = 0 → Tm (fun k => x_finished k 6 K ρ) (fun r => r = (0, ρ)) := fun ρ K k3 => by
    refine Tm_suc (fun k => by rw [x_finished]) ?_
    refine Tm_suc (fun k => by rw [x_finished]) ?_
    rw [k3]
    refine Tm_ite (fun _ => ?_) (fun z => absurd rfl z)
    refine Tm_suc (fun k => by rw [x_finished]) ?_
    exact Tm_some rfl
  intro M
  induction M using Nat.strongRecOn with
  | ind M ih =>
  intro c un d w' x F τ1 τ2 N1 N2 hm hw hM hP n2 o2 n3 o3
  refine T2_suc (fun k => by rw [x_finished]) (fun k => by rw [x_finished]) ?_
  rw [n3, o3, n2, o2]
  refine T2_ite Iff.rfl (fun z _ => absurd z (by decide)) (fun _ _ => ?_)
  refine T2_ob (E_done hW hXC ht hw hM hP rfl rfl) (fun r1 r2 hr => ?_)
  obtain ⟨c1, c2⟩ := hr
  rw [← c1]
  rcases c2 with ⟨z, hO⟩ | ⟨c', un', d', v', n', F', w2, z, hw2, hK, hP', lt⟩
  · rw [z]
    refine T2_ite Iff.rfl (fun _ _ => ?_) (fun y _ => absurd rfl y)
    refine T2_suc (fun k => by rw [x_finished]) (fun k => by rw [x_finished]) ?_
    refine T2_suc (fun k => by rw [x_finished]) (fun k => by rw [x_finished]) ?_
    refine T2_ite (c1 := (0 : Int32) = 0) (c2 := (0 : Int32) = 0) Iff.rfl (fun _ _ => ?_) (fun y _ => absurd rfl y)
    refine T2_suc (fun k => by rw [x_finished]) (fun k => by rw [x_finished]) ?_
    refine T2_ite (c1 := (0 : Int32) = 0) (c2 := (0 : Int32) = 0) Iff.rfl (fun _ _ => ?_) (fun y _ => absurd rfl y)
    refine T2_mono (T2_t (fend _ _ rfl) (fend _ _ rfl)) (fun s1 s2 hs => ?_)
    rw [hs.1, hs.2]
    exact hO
  · obtain ⟨hE, U1, U2, B1, B2, kp⟩ := id hK
    have w6 := EI_w hE
    obtain ⟨_, _, ⟨n7, _, _⟩, _, _⟩ := Pos_b hW hP'
    obtain ⟨_, ⟨p, p8, p4⟩, hsib, _⟩ := hW un' d' v' n' (LVs_S hP'.2.2.1)
    rw [z]
    refine T2_ite Iff.rfl (fun y _ => absurd y (ne_m1 n7)) (fun _ _ => ?_)
    have k4 : upd (upd N1 4 (nI n')) 100 1 4 = nI n' := rfl
    have l4 : upd (upd N2 4 (nI n')) 100 1 4 = nI n' := rfl
    have k1 : upd (upd N1 4 (nI n')) 100 1 100 = 1 := rfl
    have l1 : upd (upd N2 4 (nI n')) 100 1 100 = 1 := rfl
    generalize upd (upd N1 4 (nI n')) 100 1 = K1 at *
    generalize upd (upd N2 4 (nI n')) 100 1 = K2 at *
    refine T2_suc (fun k => by rw [x_finished]) (fun k => by rw [x_finished]) ?_
    rw [k1, l1, k4, l4]
    refine T2_ite Iff.rfl (fun y _ => absurd y (by decide)) (fun _ _ => ?_)
    refine T2_chk (n_in (by omega) (by omega)) (n_in (by omega) (by omega)) ?_
    rw [n_cl (p := n') (by omega), B1.1.1 9 _ (by omega) (by omega) (by omega), B2.1.1 9 _ (by omega) (by omega) (by omega)]
    refine T2_ite Iff.rfl (fun y _ => ?_) (fun y _ => ?_)
    · have q3 : upd K1 3 1 3 = 1 := rfl
      have p3 : upd K2 3 1 3 = 1 := rfl
      have q4 : upd K1 3 1 4 = nI n' := k4
      have p4' : upd K2 3 1 4 = nI n' := l4
      generalize upd K1 3 1 = J1 at *
      generalize upd K2 3 1 = J2 at *
      refine T2_suc (fun k => by rw [x_finished]) (fun k => by rw [x_finished]) ?_
      rw [q3, p3, q4, p4']
      refine T2_ite Iff.rfl (fun y _ => absurd y (by decide)) (fun _ _ => ?_)
      refine T2_chk (n_in (by omega) (by omega)) (n_in (by omega) (by omega)) ?_
      rw [n_cl (p := n') (by omega), B1.1.1 8 _ (by omega) (by omega) (by omega), B2.1.1 8 _ (by omega) (by omega) (by omega), p8]
      refine T2_chk (n_in (by omega) (by omega)) (n_in (by omega) (by omega)) ?_
      rw [B1.1.1 10 _ (by omega) (by omega) ⟨by omega, fun _ => by rw [n_cl (p := p) (by omega)]; omega⟩, B2.1.1 10 _ (by omega) (by omega) ⟨by omega, fun _ => by rw [n_cl (p := p) (by omega)]; omega⟩]
      refine T2_suc (fun k => by rw [x_finished]) (fun k => by rw [x_finished]) ?_
      have ue : T 10 (nI p).toNatClampNeg = upN T n' := by unfold upN; rw [p8]
      rw [ue]
      exact ih (21 * c' + d') (by omega) c' un' d' w2 (upN T n') F' r1.2 r2.2 _ _ (Nat.le_refl _) hw2 hK (Pos_in hW hP') rfl rfl q3 p3
    · obtain ⟨n2', v2', xn, hS2, _, hu2⟩ := hsib.resolve_left y
      refine T2_chk (n_in3 (by omega) (by omega)) (n_in3 (by omega) (by omega)) ?_
      refine T2_chk (by decide) (by decide) ?_
      rw [show (0 : Int32).toNatClampNeg = 0 from by decide, xn]
      refine T2_suc (fun k => by rw [x_finished]) (fun k => by rw [x_finished]) ?_
      refine T2_mono (T2_t (fend _ _ rfl) (fend _ _ rfl)) (fun s1 s2 hs => ?_)
      rw [hs.1, hs.2]
      exact OuQ_0 hW hw2 hK (Pos_lv hP' (LVs_sib hP'.2.2.1 hS2 hu2))
theorem E_finished (hW : SWf T FN S) (hXC : XC ≤ 401000) (ht : t + 9 + KBn T ≤ w + 17000) {c un d w' : Nat} {x : Int32} {F : List Nat} {τ1 τ2 : MS} (hw : w ≤ w') (hM : Mid T FN S t w' XC σ1 σ2 τ1 τ2) (hP : InP T S c un d x F τ1) {L1 L2 : Nat → Int32} (d1 : L1 1 = x) (d2 : L2 1 = x) : T2 (fun k => x_finished k 0 L1 τ1) (fun k => x_finished k 0 L2 τ2) (fun r1 r2 => OuQ T FN S t w XC σ1 σ2 r1.2 r2.2) := by
  refine T2_suc (fun k => by rw [x_finished]) (fun k => by rw [x_finished]) ?_
  exact E_fin hW hXC ht _ c un d w' x F τ1 τ2 _ _ (Nat.le_refl _) hw hM hP d1 d2 rfl rfl
/-- a block is entered: its first statement is told, or it is finished at once -/
theorem E_enter (hW : SWf T FN S) (hXC : XC ≤ 401000) (ht : t + 9 + KBn T ≤ w + 17000) {c un d w' : Nat} {x : Int32} {F : List Nat} {τ1 τ2 : MS} (hw : w ≤ w') (hM : Mid T FN S t w' XC σ1 σ2 τ1 τ2) (hP : InP T S c un d x F τ1) {y : Int32} (hy : y = -1 ∨ ∃ b v', y = nI b ∧ Pos T S c un d v' b F τ1) {L1 L2 : Nat → Int32} (d1 : L1 1 = y) (d2 : L2 1 = y) (e1 : L1 2 = x) (e2 : L2 2 = x) : T2 (fun k => x_enter k 0 L1 τ1) (fun k => x_enter k 0 L2 τ2) (fun r1 r2 => OuQ T FN S t w XC σ1 σ2 r1.2 r2.2) := by
  refine T2_suc (fun k => by rw [x_enter]) (fun k => by rw [x_enter]) ?_
  rw [d1, d2]
  refine T2_ite Iff.rfl (fun _ _ => ?_) (fun z _ => ?_)
  · refine T2_suc (fun k => by rw [x_enter]) (fun k => by rw [x_enter]) ?_
    refine T2_ob (E_finished hW hXC ht hw hM hP (by exact e1) (by exact e2)) (fun r1 r2 hr => ?_)
    refine T2_suc (fun k => by rw [x_enter]) (fun k => by rw [x_enter]) ?_
    exact T2_some hr
  · obtain ⟨b, v', yb, hb⟩ := hy.resolve_left z
    refine T2_chk (by decide) (by decide) ?_
    rw [show (0 : Int32).toNatClampNeg = 0 from by decide, yb]
    refine T2_suc (fun k => by rw [x_enter]) (fun k => by rw [x_enter]) ?_
    exact T2_some (OuQ_0 hW hw hM hb)
/-- on behind a statement -/
theorem E_goOnBehind (hW : SWf T FN S) (hXC : XC ≤ 401000) (ht : t + 9 + KBn T ≤ w + 17000) {c un d v n w' : Nat} {F : List Nat} {τ1 τ2 : MS} (hw : w ≤ w') (hM : Mid T FN S t w' XC σ1 σ2 τ1 τ2) (hP : Pos T S c un d v n F τ1) {L1 L2 : Nat → Int32} (d1 : L1 1 = nI n) (d2 : L2 1 = nI n) : T2 (fun k => x_goOnBehind k 0 L1 τ1) (fun k => x_goOnBehind k 0 L2 τ2) (fun r1 r2 => OuQ T FN S t w XC σ1 σ2 r1.2 r2.2) := by
  obtain ⟨hE, U1, U2, B1, B2, kp⟩ := id hM
  have w6 := EI_w hE
  obtain ⟨_, _, ⟨n7, _, _⟩, _, _⟩ := Pos_b hW hP
  obtain ⟨_, ⟨p, p8, p4⟩, hsib, _⟩ := hW un d v n (LVs_S hP.2.2.1)
  refine T2_suc (fun k => by rw [x_goOnBehind]) (fun k => by rw [x_goOnBehind]) ?_
  rw [d1, d2]
  refine T2_ite Iff.rfl (fun y _ => absurd y (ne_m1 n7)) (fun _ _ => ?_)
  refine T2_suc (fun k => by rw [x_goOnBehind]) (fun k => by rw [x_goOnBehind]) ?_
  rw [d1, d2]
  refine T2_chk (n_in (by omega) (by omega)) (n_in (by omega) (by omega)) ?_
  rw [n_cl (p := n) (by omega), B1.1.1 9 _ (by omega) (by omega) (by omega), B2.1.1 9 _ (by omega) (by omega) (by omega)]
  refine T2_ite Iff.rfl (fun y _ => ?_) (fun y _ => ?_)
  · refine T2_suc (fun k => by rw [x_goOnBehind]) (fun k => by rw [x_goOnBehind]) ?_
    rw [d1, d2]
    refine T2_chk (n_in (by omega) (by omega)) (n_in (by omega) (by omega)) ?_
    rw [n_cl (p := n) (by omega), B1.1.1 8 _ (by omega) (by omega) (by omega), B2.1.1 8 _ (by omega) (by omega) (by omega), p8]
    refine T2_chk (n_in (by omega) (by omega)) (n_in (by omega) (by omega)) ?_
    rw [B1.1.1 10 _ (by omega) (by omega) ⟨by omega, fun _ => by rw [n_cl (p := p) (by omega)]; omega⟩, B2.1.1 10 _ (by omega) (by omega) ⟨by omega, fun _ => by rw [n_cl (p := p) (by omega)]; omega⟩]
    have ue : T 10 (nI p).toNatClampNeg = upN T n := by unfold upN; rw [p8]
    rw [ue]
    refine T2_ob (E_finished hW hXC ht hw hM (Pos_in hW hP) rfl rfl) (fun r1 r2 hr => ?_)
    refine T2_suc (fun k => by rw [x_goOnBehind]) (fun k => by rw [x_goOnBehind]) ?_
    exact T2_some hr
  · obtain ⟨n2', v2', xn, hS2, _, hu2⟩ := hsib.resolve_left y
    refine T2_chk (n_in3 (by omega) (by omega)) (n_in3 (by omega) (by omega)) ?_
    refine T2_chk (by decide) (by decide) ?_
    rw [show (0 : Int32).toNatClampNeg = 0 from by decide, xn]
    refine T2_suc (fun k => by rw [x_goOnBehind]) (fun k => by rw [x_goOnBehind]) ?_
    exact T2_some (OuQ_0 hW hw hM (Pos_lv hP (LVs_sib hP.2.2.1 hS2 hu2)))
/-- a statement is passed -/
theorem E_pass (hW : SWf T FN S) (hXC : XC ≤ 401000) (ht : t + 9 + KBn T ≤ w + 17000) {c un d v n w' : Nat} {F : List Nat} {τ1 τ2 : MS} (hw : w ≤ w') (hM : Mid T FN S t w' XC σ1 σ2 τ1 τ2) (hP : Pos T S c un d v n F τ1) {L1 L2 : Nat → Int32} (d1 : L1 1 = nI n) (d2 : L2 1 = nI n) : T2 (fun k => x_pass k 0 L1 τ1) (fun k => x_pass k 0 L2 τ2) (fun r1 r2 => OuQ T FN S t w XC σ1 σ2 r1.2 r2.2) := by
  obtain ⟨e1, e2⟩ := EI_e hM.1
  refine T2_suc (fun k => by rw [x_pass]) (fun k => by rw [x_pass]) ?_
  rw [e1, e2]
  refine T2_ite Iff.rfl (fun _ _ => ?_) (fun z _ => absurd rfl z)
  refine T2_ob (E_goOnBehind hW hXC ht hw hM hP (by exact d1) (by exact d2)) (fun r1 r2 hr => ?_)
  refine T2_suc (fun k => by rw [x_pass]) (fun k => by rw [x_pass]) ?_
  exact T2_some hr
end PAS
end JnS250
section JnS251
/-! Statements on both sides (reference): whiles, fors are begun. -/
section WHF
variable {T : Nat → Nat → Int32} {FN : Nat → Nat → Prop} {S : Nat → Nat → Nat → Nat → Prop} {t w XC : Nat} {σ1 σ2 : MS}
theorem s_gobM {τ : MS} {L : Nat → Int32} (d : L 1 = -1) : Tm (fun k => x_goOnBehind k 0 L τ) (fun r => r = (0, τ)) := by
  refine Tm_suc (fun k => by rw [x_goOnBehind]) ?_
  rw [d]
  exact Tm_ite (fun _ => Tm_some rfl) (fun z => absurd rfl z)
/-- within the body of an if or a while -/
theorem Pos_bd (hW : SWf T FN S) {c un d v n : Nat} {F : List Nat} {σ : MS} {y : Int32} (hP : Pos T S c un d v n F σ) (hk : T 4 n = 46 ∨ T 4 n = 47) (hB : BdE T S un d v n y) : InP T S c un (d + 1) (nI n) F σ ∧ (y = -1 ∨ ∃ b v', y = nI b ∧ Pos T S c un (d + 1) v' b F σ) := by
  obtain ⟨_, _, ⟨n7, _, _⟩, b3, b4⟩ := Pos_b hW hP
  obtain ⟨h1, h2, h3, h4, h5, h6, h7⟩ := id hP
  have n48 : ¬ T 4 n = 48 := by rcases hk with z | z <;> (rw [z]; decide)
  refine ⟨⟨h1, h2, h4, h5, h6, h7, b3, b4, Or.inr ⟨n, d, v, F, rfl, rfl, h3, by rw [if_neg n48], hk.imp id Or.inl⟩⟩, ?_⟩
  rcases hB with z | ⟨b, v', yb, hS, _, hu⟩
  · exact Or.inl z
  · refine Or.inr ⟨b, v', yb, ?_⟩
    have := LVs_dn n7 h3 hu hS
    rw [if_neg n48] at this
    exact Pos_lv hP this
/-- a while is tested -/
theorem E_testAgain (hW : SWf T FN S) (hXC : XC ≤ 401000) (ht : t + 9 + KBn T ≤ w + 17000) {c un d v n w' : Nat} {F : List Nat} {τ1 τ2 : MS} (hw : w ≤ w') (hM : Mid T FN S t w' XC σ1 σ2 τ1 τ2) (hP : Pos T S c un d v n F τ1) (hk : T 4 n = 47) (h5 : Wx0 T FN (lcU un T) (T 5 n)) (h6 : BdE T S un d v n (T 6 n)) {L1 L2 : Nat → Int32} (d1 : L1 1 = nI n) (d2 : L2 1 = nI n) : T2 (fun k => x_testAgain k 0 L1 τ1) (fun k => x_testAgain k 0 L2 τ2) (fun r1 r2 => OuQ T FN S t w XC σ1 σ2 r1.2 r2.2) := by
  obtain ⟨hE, U1, U2, B1, B2, kp⟩ := id hM
  have w6 := EI_w hE
  obtain ⟨_, _, ⟨n7, _, _⟩, _, _⟩ := Pos_b hW hP
  have hSc := Pos_sc B1 hP
  refine T2_suc (fun k => by rw [x_testAgain]) (fun k => by rw [x_testAgain]) ?_
  rw [d1, d2]
  refine T2_chk (n_in (by omega) (by omega)) (n_in (by omega) (by omega)) ?_
  rw [n_cl (p := n) (by omega), B1.1.1 5 _ (by omega) (by omega) (by omega), B2.1.1 5 _ (by omega) (by omega) (by omega)]
  refine T2_ob (E_hold (by omega) (by omega) hSc.1 h5 hE rfl rfl) (fun r1 r2 hr => ?_)
  obtain ⟨a1, f1, f2, a4⟩ := hr
  rcases a4 with ⟨w2, hw2, hJ⟩ | ⟨z1, z2, _⟩
  case inr =>
    refine T2_ite ⟨fun z => absurd z (EZ_le z1), fun z => absurd z (EZ_le z2)⟩ (fun z _ => absurd z (EZ_le z1)) (fun _ _ => ?_)
    exact T2_some (OuQ_z (I := fun _ => False) hM (FC_fe f1) (FC_fe f2) (UT_fe f1 U1) (UT_fe f2 U2) (by omega) z1 z2)
  obtain ⟨e1, e2⟩ := EI_e hJ
  have hM' : Mid T FN S t w2 XC σ1 σ2 r1.2 r2.2 := Mid_fc (I := fun _ => False) hM (FC_fe f1) (FC_fe f2) hJ (UT_fe f1 U1) (UT_fe f2 U2)
  have hP' := Pos_fs hW (FS_fe f1) hP
  have B1' := hM'.2.2.2.1
  have B2' := hM'.2.2.2.2.1
  rw [e1, e2]
  refine T2_ite Iff.rfl (fun _ _ => ?_) (fun z _ => absurd (by decide) z)
  refine T2_suc (fun k => by rw [x_testAgain]) (fun k => by rw [x_testAgain]) ?_
  have fin3 : ∀ (s1 s2 : MS) (K1 K2 : Nat → Int32), OuQ T FN S t w XC σ1 σ2 s1 s2 → T2 (fun k => x_testAgain k 3 K1 s1) (fun k => x_testAgain k 3 K2 s2) (fun r1 r2 => OuQ T FN S t w XC σ1 σ2 r1.2 r2.2) := fun s1 s2 K1 K2 h => T2_suc (fun k => by rw [x_testAgain]) (fun k => by rw [x_testAgain]) (T2_some h)
  show T2 (fun k => if r1.1 = 0 then _ else _) (fun k => if r2.1 = 0 then _ else _) _
  refine T2_ite (by rw [a1]) (fun _ _ => ?_) (fun _ _ => ?_)
  · refine T2_suc (fun k => by rw [x_testAgain]) (fun k => by rw [x_testAgain]) ?_
    exact T2_ob (E_goOnBehind hW hXC ht (Nat.le_trans hw hw2) hM' hP' (by exact d1) (by exact d2)) (fun s1 s2 hs => fin3 _ _ _ _ hs)
  · show T2 (fun k => if ¬ (L1 1 < 0 ∨ 70000 ≤ (L1 1).toNatClampNeg) then _ else _) (fun k => if ¬ (L2 1 < 0 ∨ 70000 ≤ (L2 1).toNatClampNeg) then _ else _) _
    rw [d1, d2]
    refine T2_chk (n_in (by omega) (by omega)) (n_in (by omega) (by omega)) ?_
    obtain ⟨hIn, hy⟩ := Pos_bd hW hP' (Or.inr hk) h6
    refine T2_ob (E_enter hW hXC ht (Nat.le_trans hw hw2) hM' hIn hy ?_ ?_ (by exact d1) (by exact d2)) (fun s1 s2 hs => fin3 _ _ _ _ hs)
    · show r1.2.2.2 6 (L1 1).toNatClampNeg = _
      rw [d1, n_cl (p := n) (by omega), B1'.1.1 6 _ (by omega) (by omega) (by omega)]
    · show r2.2.2.2 6 (L2 1).toNatClampNeg = _
      rw [d2, n_cl (p := n) (by omega), B2'.1.1 6 _ (by omega) (by omega) (by omega)]
/-- a for is begun -/
theorem E_beginFor (hW : SWf T FN S) (hXC : XC ≤ 401000) (ht : t + 9 + KBn T ≤ w + 17000) {c un d v n w' : Nat} {F : List Nat} {τ1 τ2 : MS} (hw : w ≤ w') (hM : Mid T FN S t w' XC σ1 σ2 τ1 τ2) (hP : Pos T S c un d v n F τ1) (hk : T 4 n = 48) {L1 L2 : Nat → Int32} (d1 : L1 1 = nI n) (d2 : L2 1 = nI n) : T2 (fun k => x_beginFor k 0 L1 τ1) (fun k => x_beginFor k 0 L2 τ2) (fun r1 r2 => OuQ T FN S t w XC σ1 σ2 r1.2 r2.2) := by
  obtain ⟨hE, U1, U2, B1, B2, kp⟩ := id hM
  have w6 := EI_w hE
  obtain ⟨pb1, pb2, ⟨n7, v6, d20⟩, b3, b4⟩ := Pos_b hW hP
  obtain ⟨h1, hc, hLV, h2, hF, h3, hIt⟩ := id hP
  obtain ⟨_, _, _, _, h48, _⟩ := hW un d v n (LVs_S hLV)
  obtain ⟨d19, f1, f2, f3, f4, f5⟩ := h48 hk
  have p1 : (3214 : Int32) + 2 * nI F.length = nI (3214 + 2 * F.length) := by
    rw [show (2 : Int32) * nI F.length = nI (2 * F.length) from n_mulN 2 F.length]; exact n_add (p := 3214) (by omega)
  -- three numbers are written
  have wr : ∀ (i : Nat) (x : Int32) (ρ1 ρ2 : MS), (¬ Zn 30 i ∧ i ≠ 1 ∧ i ≠ 3 ∧ ¬ (65 ≤ i ∧ i < 214 ∧ i % 3 = 2)) ∧ i ≠ 2 → Mid T FN S t w' XC σ1 σ2 ρ1 ρ2 → Mid T FN S t w' XC σ1 σ2 (mAr ρ1 30 i x) (mAr ρ2 30 i x) := fun i x ρ1 ρ2 hi h => Mid_fc (I := fun j => j = i) h (FC_w rfl) (FC_w rfl) (EI_c30 ⟨hi.1.1, hi.1.2.1, hi.1.2.2.1, hi.2⟩ h.1) (UT_c30 hi.1 (EI_B h.1).1 h.2.1) (UT_c30 hi.1 (EI_B h.1).2 h.2.2.1)
  have o : ∀ (ρ : MS) (i j : Nat) (x : Int32), j ≠ i → (mAr ρ 30 i x).2.2 30 j = ρ.2.2 30 j := fun ρ i j x hj => by rw [mAr_s, upd_other hj]
  have hM1 := wr (3214 + 2 * F.length) (nI n) τ1 τ2 (by unfold Zn; omega) hM
  have hM2 := wr (3214 + 2 * F.length + 1) (nI (suI T F)) _ _ (by unfold Zn; omega) hM1
  have vA : ∀ τ : MS, (mAr (mAr τ 30 (3214 + 2 * F.length) (nI n)) 30 (3214 + 2 * F.length + 1) (nI (suI T F))).2.2 30 (3214 + 2 * F.length) = nI n := fun τ => by rw [o _ _ _ _ (by omega), mAr_s, upd_same]
  have vB : ∀ τ : MS, (mAr (mAr τ 30 (3214 + 2 * F.length) (nI n)) 30 (3214 + 2 * F.length + 1) (nI (suI T F))).2.2 30 (3214 + 2 * F.length + 1) = nI (suI T F) := fun τ => by rw [mAr_s, upd_same]
  have hM3 := Mid_fc (I := fun j => j = 2) hM2 (FC_w (x := nI (F.length + 1)) rfl) (FC_w rfl) (EI_f1 (f := F.length) (by rw [o _ _ _ _ (by omega), o _ _ _ _ (by omega)]; exact h2) (by omega) (fun j hj => by
    rcases hj with e | e
    · rw [e, vA, vA]
    · rw [e, vB, vB]) hM2.1) (UT_c30 (by unfold Zn; omega) (EI_B hM2.1).1 hM2.2.1) (UT_c30 (by unfold Zn; omega) (EI_B hM2.1).2 hM2.2.2.1)
  have k2 : τ2.2.2 30 2 = nI F.length := (EI_30 hE (by unfold Zn; omega) (InA_4 (by omega))).trans h2
  have k3 : τ2.2.2 30 3 = nI (suI T F) := (EI_30 hE (by unfold Zn; omega) (InA_4 (by omega))).trans h3
  refine T2_suc (fun k => by rw [x_beginFor]) (fun k => by rw [x_beginFor]) ?_
  refine T2_chk (by decide) (by decide) ?_
  rw [show (2 : Int32).toNatClampNeg = 2 from by decide, h2, k2, p1, d1, d2]
  refine T2_chk (n_in (by omega) (by omega)) (n_in (by omega) (by omega)) ?_
  rw [n_cl (p := 3214 + 2 * F.length) (by omega)]
  refine T2_suc (fun k => by rw [x_beginFor]) (fun k => by rw [x_beginFor]) ?_
  refine T2_chk (by decide) (by decide) ?_
  show T2 (fun k => if ¬ (nI (3214 + 2 * F.length) + 1 < 0 ∨ 11514 ≤ (nI (3214 + 2 * F.length) + 1).toNatClampNeg) then x_beginFor k 2 _ (mAr (mAr τ1 30 (3214 + 2 * F.length) (nI n)) 30 (nI (3214 + 2 * F.length) + 1).toNatClampNeg ((mAr τ1 30 (3214 + 2 * F.length) (nI n)).2.2 30 (3 : Int32).toNatClampNeg)) else none) (fun k => if ¬ (nI (3214 + 2 * F.length) + 1 < 0 ∨ 11514 ≤ (nI (3214 + 2 * F.length) + 1).toNatClampNeg) then x_beginFor k 2 _ (mAr (mAr τ2 30 (3214 + 2 * F.length) (nI n)) 30 (nI (3214 + 2 * F.length) + 1).toNatClampNeg ((mAr τ2 30 (3214 + 2 * F.length) (nI n)).2.2 30 (3 : Int32).toNatClampNeg)) else none) _
  rw [show (3 : Int32).toNatClampNeg = 3 from by decide, o τ1 _ 3 _ (by omega), o τ2 _ 3 _ (by omega), h3, k3, n_add1]
  refine T2_chk (n_in (by omega) (by omega)) (n_in (by omega) (by omega)) ?_
  rw [n_cl (p := 3214 + 2 * F.length + 1) (by omega)]
  have q2 : (mAr (mAr τ1 30 (3214 + 2 * F.length) (nI n)) 30 (3214 + 2 * F.length + 1) (nI (suI T F))).2.2 30 2 = nI F.length := by rw [o _ _ _ _ (by omega), o _ _ _ _ (by omega)]; exact h2
  have q2' : (mAr (mAr τ2 30 (3214 + 2 * F.length) (nI n)) 30 (3214 + 2 * F.length + 1) (nI (suI T F))).2.2 30 2 = nI F.length := by rw [o _ _ _ _ (by omega), o _ _ _ _ (by omega)]; exact k2
  refine T2_suc (fun k => by rw [x_beginFor]) (fun k => by rw [x_beginFor]) ?_
  refine T2_chk (by decide) (by decide) ?_
  refine T2_chk (by decide) (by decide) ?_
  rw [show (2 : Int32).toNatClampNeg = 2 from by decide, q2, q2', n_add1]
  refine T2_suc (fun k => by rw [x_beginFor]) (fun k => by rw [x_beginFor]) ?_
  show T2 (fun k => ob (x_seek k 0 (upd (upd (fun _ => 0) 1 (L1 1)) 2 1) (mAr (mAr (mAr τ1 30 (3214 + 2 * F.length) (nI n)) 30 (3214 + 2 * F.length + 1) (nI (suI T F))) 30 2 (nI (F.length + 1)))) (fun r1 => ob (x_goOnBehind k 0 (upd (fun _ => 0) 1 r1.1) r1.2) (fun r2 => some (0, r2.2)))) (fun k => ob (x_seek k 0 (upd (upd (fun _ => 0) 1 (L2 1)) 2 1) (mAr (mAr (mAr τ2 30 (3214 + 2 * F.length) (nI n)) 30 (3214 + 2 * F.length + 1) (nI (suI T F))) 30 2 (nI (F.length + 1)))) (fun r1 => ob (x_goOnBehind k 0 (upd (fun _ => 0) 1 r1.1) r1.2) (fun r2 => some (0, r2.2)))) _
  rw [d1, d2]
  have e0 : ∀ j, j ≠ 2 → j ≠ 3214 + 2 * F.length → j ≠ 3214 + 2 * F.length + 1 → (mAr (mAr (mAr τ1 30 (3214 + 2 * F.length) (nI n)) 30 (3214 + 2 * F.length + 1) (nI (suI T F))) 30 2 (nI (F.length + 1))).2.2 30 j = τ1.2.2 30 j := fun j a b c => by rw [o _ _ _ _ a, o _ _ _ _ c, o _ _ _ _ b]
  have s2 : (mAr (mAr (mAr τ1 30 (3214 + 2 * F.length) (nI n)) 30 (3214 + 2 * F.length + 1) (nI (suI T F))) 30 2 (nI (F.length + 1))).2.2 30 2 = nI (F.length + 1) := by rw [mAr_s, upd_same]
  have sA : (mAr (mAr (mAr τ1 30 (3214 + 2 * F.length) (nI n)) 30 (3214 + 2 * F.length + 1) (nI (suI T F))) 30 2 (nI (F.length + 1))).2.2 30 (3214 + 2 * F.length) = nI n := by rw [o _ _ _ _ (by omega), o _ _ _ _ (by omega), mAr_s, upd_same]
  have sB : (mAr (mAr (mAr τ1 30 (3214 + 2 * F.length) (nI n)) 30 (3214 + 2 * F.length + 1) (nI (suI T F))) 30 2 (nI (F.length + 1))).2.2 30 (3214 + 2 * F.length + 1) = nI (suI T F) := by rw [o _ _ _ _ (by omega), mAr_s, upd_same]
  have s28 : (mAr (mAr (mAr τ1 30 (3214 + 2 * F.length) (nI n)) 30 (3214 + 2 * F.length + 1) (nI (suI T F))) 30 2 (nI (F.length + 1))).2.2 28 = τ1.2.2 28 := by rw [mAr_o (by decide), mAr_o (by decide), mAr_o (by decide)]
  generalize mAr (mAr (mAr τ1 30 (3214 + 2 * F.length) (nI n)) 30 (3214 + 2 * F.length + 1) (nI (suI T F))) 30 2 (nI (F.length + 1)) = ρ1 at *
  generalize mAr (mAr (mAr τ2 30 (3214 + 2 * F.length) (nI n)) 30 (3214 + 2 * F.length + 1) (nI (suI T F))) 30 2 (nI (F.length + 1)) = ρ2 at *
  have hF' : ∀ (G : List Nat), G.length ≤ F.length → FSk T (τ1.2.2 30) G → FSk T (ρ1.2.2 30) G := by
    intro G
    induction G with
    | nil => intro _ _; trivial
    | cons m G ih =>
      intro hl h
      have hl : G.length + 1 ≤ F.length := hl
      refine ⟨⟨h.1.1, ?_, ?_⟩, ih (by omega) h.2⟩
      · rw [e0 _ (by omega) (by omega) (by omega)]; exact h.1.2.1
      · rw [e0 _ (by omega) (by omega) (by omega)]; exact h.1.2.2
  have lv' : LVs T S (ρ1.2.2 30) c un d v n F := LVs_c h1 (fun i a b => e0 i (by omega) (by omega) (by omega)) hLV
  have c1' : ρ1.2.2 30 1 = nI c := (e0 1 (by omega) (by omega) (by omega)).trans hc
  have r3 : ρ1.2.2 30 3 = nI (suI T F + 0) := by rw [e0 3 (by omega) (by omega) (by omega)]; exact h3
  have it' : ItS ρ1 (suI T F + 0) := ItS_c (σ := τ1) (by omega) s28 (fun i hi => e0 i (by omega) (by omega) (by omega)) hIt
  have hSc := Sc1_lv hM3.2.2.2.1 c1' h1 (LVs_u lv')
  refine T2_ob (E_seek (c := 0) (go := 1) (F := F) hXC (by omega) n7 f3 ⟨f1, by omega⟩ (by omega) (by omega) f4 hSc hM3.1 hM3.2.1 hM3.2.2.1 s2 ⟨⟨n7, sA, sB⟩, hF' F (Nat.le_refl _) hF⟩ r3 it' (by omega) (fun _ => by omega) rfl rfl rfl rfl) (fun r1 r2 hr => ?_)
  obtain ⟨a1, a2, a3, a4, a5, a6⟩ := hr
  have lc : ∀ i, 64 ≤ i → i < 214 → r1.2.2.2 30 i = ρ1.2.2 30 i := fun i h1 h2 => FC_30 a2 (by unfold Zn; omega) (by unfold Isk Inx; omega)
  have c11 : r1.2.2.2 30 1 = nI c := (FC_30 a2 (by unfold Zn; omega) (by unfold Isk Inx; omega)).trans c1'
  have fk : ∀ i, 3214 ≤ i → i < 5314 → r1.2.2.2 30 i = ρ1.2.2 30 i := fun i h1 h2 => FC_30 a2 (by unfold Zn; omega) (by unfold Isk Inx; omega)
  have stay : OuQ T FN S t w XC σ1 σ2 r1.2 r2.2 → r1.1 = -1 → T2 (fun k => ob (x_goOnBehind k 0 (upd (fun _ => 0) 1 r1.1) r1.2) (fun r2 => some (0, r2.2))) (fun k => ob (x_goOnBehind k 0 (upd (fun _ => 0) 1 r2.1) r2.2) (fun r2 => some (0, r2.2))) (fun r1 r2 => OuQ T FN S t w XC σ1 σ2 r1.2 r2.2) := fun h z => by
    refine T2_ob (T2_t (s_gobM (by exact z)) (s_gobM (by exact a1.symm.trans z))) (fun s1 s2 hs => ?_)
    rw [hs.1, hs.2]
    exact T2_some h
  rcases a6 with ⟨z1, z7, w2, hw2, hK, k0, k2', k3', k4'⟩ | ⟨z1, w2, hw2, hK, k2', k3', k4'⟩ | ⟨z1, z2, z3⟩
  · obtain ⟨b, vb, xb, hSb, hvb, ub⟩ := f5.resolve_left z7
    have hD := LVs_dn n7 lv' ub hSb
    rw [if_pos hk] at hD
    have es : suI T (n :: F) = suI T F + itn T n := Nat.add_comm _ _
    refine stay (Or.inl ⟨w2, by omega, Mid_fc hM3 a2 a3 hK a4 a5, Or.inl ⟨c, un, d + 1, vb, b, n :: F, ⟨h1, c11, LVs_c h1 lc hD, k2', FSk_c (by show F.length + 1 ≤ 1050; omega) fk ⟨⟨n7, sA, sB⟩, hF' F (Nat.le_refl _) hF⟩, by rw [es]; exact k3', by rw [es]; exact k4'⟩, k0.trans xb⟩⟩) z1
  · refine T2_ob (E_goOnBehind hW hXC ht (Nat.le_trans hw hw2) (Mid_fc hM3 a2 a3 hK a4 a5) ⟨h1, c11, LVs_c h1 lc lv', k2', FSk_c (by omega) fk (hF' F (Nat.le_refl _) hF), k3', k4'⟩ (by exact z1) (by exact a1.symm.trans z1)) (fun s1 s2 hs => T2_some hs)
  · exact stay (OuQ_z hM3 a2 a3 a4 a5 (by omega) z2 z3) z1
end WHF
end JnS251
