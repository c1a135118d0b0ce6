/-! Statements on both sides (reference): the frame of a call is left. -/
theorem suN_ex {f : Nat → Nat} {n : Nat} : ∀ {m : Nat}, n ≤ m → (∀ j, n ≤ j → j < m → f j = 0) → suN f m = suN f n := by
  intro m
  induction m with
  | zero => intro h _; rw [show n = 0 by omega]
  | succ m ih =>
    intro h hz
    by_cases e : n = m + 1
    · rw [e]
    · show suN f m + f m = suN f n
      rw [ih (by omega) (fun j h1 h2 => hz j h1 (by omega)), hz m (by omega) (by omega)]; omega
theorem suN_mo {f : Nat → Nat} {n : Nat} : ∀ {m : Nat}, n ≤ m → suN f n ≤ suN f m := by
  intro m
  induction m with
  | zero => intro h; rw [show n = 0 by omega]; exact Nat.le_refl _
  | succ m ih =>
    intro h
    by_cases e : n = m + 1
    · rw [e]; exact Nat.le_refl _
    · have := ih (by omega)
      show suN f n ≤ suN f m + f m
      omega
/-- what a slot of a call counts -/
noncomputable def pzC (σ : MS) (l2 j : Nat) : Nat := szP (σ.2.2 28) (kC σ) (σ.2.2 30) 0 (214 + 60 * l2 + j)
/-- params are pushed -/
def PBp (t l2 i : Nat) (σ ρ : MS) : Prop := (∀ a, a ≠ 29 → ρ.2.2 a = σ.2.2 a) ∧ (∀ j, j ≠ 59 → ρ.1 j = σ.1 j) ∧ ρ.2.1 = σ.2.1 ∧ ρ.1 59 = nI (t + i) ∧ (∀ j, j < t → ρ.2.2 29 j = σ.2.2 29 j) ∧ ∀ j, j < i → ρ.2.2 29 (t + j) = σ.2.2 30 (214 + 60 * l2 + j)
theorem PB_pu {t l2 i : Nat} {σ ρ : MS} (h : PBp t l2 i σ ρ) : PBp t l2 (i + 1) σ (mPu ρ (t + i) (σ.2.2 30 (214 + 60 * l2 + i))) := by
  obtain ⟨h1, h2, h3, h4, h5, h6⟩ := h
  have p29 : (mPu ρ (t + i) (σ.2.2 30 (214 + 60 * l2 + i))).2.2 29 = upd (ρ.2.2 29) (t + i) (σ.2.2 30 (214 + 60 * l2 + i)) := by
    show (mAr ρ 29 (t + i) _).2.2 29 = _
    rw [mAr_s]
  refine ⟨fun a ha => (mPu_o ha).trans (h1 a ha), fun j hj => (mPu_s hj).trans (h2 j hj), h3, rfl, fun j hj => ?_, fun j hj => ?_⟩
  · rw [p29, upd_other (by omega)]; exact h5 j hj
  · rw [p29]
    by_cases e : j = i
    · rw [e, upd_same]
    · rw [upd_other (by omega)]; exact h6 j (by omega)
section GBF
variable {T : Nat → Nat → Int32} {t w XC l2 pr np ns n0 : Nat} {σ σ1 σ2 : MS} {x y : Int32}
/-- the totals of a state whose last call is gone -/
theorem StS_l {ρ : MS} (hc : σ.2.2 30 1 = nI (l2 + 1)) (hl : l2 < 50) (h1 : ρ.2.2 30 1 = nI l2) (ho : ∀ j, j ≠ 1 → ρ.2.2 30 j = σ.2.2 30 j) (h28 : ρ.2.2 28 = σ.2.2 28) (h20 : kC ρ = kC σ) : StS σ = StS ρ + suN (pzC σ l2) 60 := by
  have st : ∀ j, StI (ρ.2.2 30) 0 j ↔ (StI (σ.2.2 30) 0 j ∧ ¬ (214 + 60 * l2 ≤ j ∧ j < 214 + 60 * l2 + 60)) := fun j => by
    unfold StI
    rw [show (0 + 1) = 1 from rfl, h1, hc, ho (0 + 3) (by omega), n_cl (p := l2) (by omega), n_cl (p := l2 + 1) (by omega)]
    constructor
    · intro z; omega
    · intro z; omega
  have nu : ∀ j, NUa (kC σ) (ρ.2.2 30) 0 j ↔ NUa (kC σ) (σ.2.2 30) 0 j := fun j => NUa_m (fun j h1 h2 _ => ho _ (by omega))
  unfold StS SzS
  rw [h28, h20]
  refine suN_blk (by omega) (fun j hj hn => ?_) (fun j h1 h2 => ?_)
  · unfold szP
    have e : CtA (kC σ) (ρ.2.2 30) 0 j ↔ CtA (kC σ) (σ.2.2 30) 0 j := by
      unfold CtA; rw [st, nu]
      constructor
      · intro z; exact ⟨z.1.1, z.2⟩
      · intro z; exact ⟨⟨z.1, by omega⟩, z.2⟩
    by_cases c : CtA (kC σ) (σ.2.2 30) 0 j
    · rw [if_pos c, if_pos (e.mpr c), ho (0 + j) (fun z => by have := c.1; unfold StI at this; omega)]
    · rw [if_neg c, if_neg (fun z => c (e.mp z))]
  · unfold szP
    rw [if_neg (fun z => ((st _).mp z.1).2 (by omega))]
/-- the frame of a call is left: params and an answer lie upon the pile -/
theorem E_gbFrame {Q : Int32 × MS → Int32 × MS → Prop} (ht : t ≤ 100000) (hI : EI t w XC σ1 σ2) (hV : EI (t + 1) w XC (mPu σ1 t x) (mPu σ2 t y)) (U1 : UT σ1) (U2 : UT σ2) (hl : l2 < 50) (hc : σ1.2.2 30 1 = nI (l2 + 1)) (h65 : σ1.2.2 30 (65 + 3 * l2) = nI pr) (hpr : pr < 41) (hpc : pr < (σ1.1 30).toNatClampNeg) (hnp : np ≤ 8 ∧ np ≤ 60) (hns : ns ≤ 60) (t18 : σ1.2.2 18 pr = nI np) (t21 : σ1.2.2 21 (1 + pr) = nI ns) (t20 : ∀ s, ns ≤ s → s < 60 → kC σ1 (60 * (1 + pr) + s) = 0) {N1 N2 : Nat → Int32} (n1 : N1 1 = x) (o1 : N2 1 = y) (n2 : N1 2 = nI l2) (o2 : N2 2 = nI l2) (n3 : N1 3 = nI n0) (o3 : N2 3 = nI n0) (n4 : N1 4 = nI pr) (o4 : N2 4 = nI pr) (hQ : ∀ (τ1 τ2 : MS) (M1 M2 : Nat → Int32), M1 3 = nI n0 → M2 3 = nI n0 → M1 4 = nI pr → M2 4 = nI pr → M1 5 = nI t → M2 5 = nI t → EI (t + np + 1) w XC τ1 τ2 → UT τ1 → UT τ2 → FCt (fun i => i = 1) σ1 τ1 → FCt (fun i => i = 1) σ2 τ2 → τ1.2.2 30 1 = nI l2 → (∀ q, q ≤ 3100 → ItS σ1 q → ItS τ1 q) → T2 (fun k => x_giveBack k 10 M1 τ1) (fun k => x_giveBack k 10 M2 τ2) Q) : T2 (fun k => x_giveBack k 2 N1 σ1) (fun k => x_giveBack k 2 N2 σ2) Q := by
  obtain ⟨s1, s2⟩ := EI_59 hI
  have hI0 := hI
  obtain ⟨g1, l1, B1, h1, X1, g2, l2', B2, h2, X2, m1, m2, hR, _⟩ := hI0
  have r18 : σ2.2.2 18 pr = σ1.2.2 18 pr := EI_row hI ⟨Or.inr rfl, hpc⟩
  have rk : ∀ i, kC σ2 i = kC σ1 i := kC_ra hR
  have c30 : σ2.1 30 = σ1.1 30 := (hR.2.2.1 30 (by unfold AlS; omega)).symm
  have r21 : σ2.2.2 21 (1 + pr) = σ1.2.2 21 (1 + pr) := (hR.2.1 21 _ (by unfold AlR; omega) (by unfold Zn; omega) (InA_21 ⟨by omega, by omega⟩)).symm
  have k1 : σ2.2.2 30 1 = nI (l2 + 1) := (EI_30 hI (by unfold Zn; omega) (InA_4 (by omega))).trans hc
  have k65 : σ2.2.2 30 (65 + 3 * l2) = nI pr := (EI_30 hI (by unfold Zn; omega) (InA_cl hc (by omega) (by omega))).trans h65
  have stp : ∀ j, j < 60 → StI (σ1.2.2 30) 0 (214 + 60 * l2 + j) := fun j hj => by
    unfold StI
    rw [show (0 + 1) = 1 from rfl, hc, n_cl (p := l2 + 1) (by omega)]; omega
  have rtp : ∀ j, j < 60 → RtP t σ1 30 (214 + 60 * l2 + j) := fun j hj => Or.inr (Or.inl ⟨rfl, stp j hj⟩)
  have flag : ∀ (σ : MS) j, j < 60 → σ.2.2 30 1 = nI (l2 + 1) → σ.2.2 30 (65 + 3 * l2) = nI pr → (CtA (kC σ) (σ.2.2 30) 0 (214 + 60 * l2 + j) ↔ ¬ kC σ (60 * (1 + pr) + j) = 0) := fun σ j hj c1 c2 => by
    have e1 : (214 + 60 * l2 + j - 214) / 60 = l2 := by omega
    have e2 : (214 + 60 * l2 + j - 214) % 60 = j := by omega
    have e3 : NUa (kC σ) (σ.2.2 30) 0 (214 + 60 * l2 + j) ↔ kC σ (60 * (1 + pr) + j) = 0 := by
      unfold NUa
      rw [e1, e2, Nat.zero_add, c2, n_cl (p := pr) (by omega)]
      constructor
      · rintro (z | z)
        · omega
        · exact z.2.2
      · intro z; exact Or.inr ⟨by omega, by omega, z⟩
    unfold CtA
    rw [e3]
    refine ⟨fun z => z.2, fun z => ⟨?_, z⟩⟩
    unfold StI
    rw [show (0 + 1) = 1 from rfl, c1, n_cl (p := l2 + 1) (by omega)]; omega
  -- sizes of slots
  have val : ∀ j, j < 60 → ∃ va vb, σ1.2.2 30 (214 + 60 * l2 + j) = nI va ∧ (va < 3 ∨ g1 va) ∧ σ2.2.2 30 (214 + 60 * l2 + j) = nI vb ∧ (vb < 3 ∨ g2 vb) ∧ szN (σ2.2.2 28) vb = szN (σ1.2.2 28) va ∧ va < 1740000 ∧ vb < 1740000 := fun j hj => by
    obtain ⟨va, vb, a1, a2, a3, a4, a5, a6, a7⟩ := hR.1 30 _ (rtp j hj) (by unfold VwR; omega)
    exact ⟨va, vb, a1, a2, a3, a4, (EVb_sz a5).1, a6, a7⟩
  have pz0 : ∀ (σ : MS) j, j < 60 → σ.2.2 30 1 = nI (l2 + 1) → σ.2.2 30 (65 + 3 * l2) = nI pr → kC σ (60 * (1 + pr) + j) = 0 → pzC σ l2 j = 0 := fun σ j hj c1 c2 z => by
    unfold pzC szP
    rw [if_neg (fun y => (flag σ j hj c1 c2).mp y z)]
  have pz1 : ∀ (σ : MS) j v, j < 60 → v < 1740000 → σ.2.2 30 1 = nI (l2 + 1) → σ.2.2 30 (65 + 3 * l2) = nI pr → ¬ kC σ (60 * (1 + pr) + j) = 0 → σ.2.2 30 (214 + 60 * l2 + j) = nI v → pzC σ l2 j = szN (σ.2.2 28) v := fun σ j v hj hv c1 c2 z hz => by
    unfold pzC szP
    rw [if_pos ((flag σ j hj c1 c2).mpr z), Nat.zero_add, hz, n_cl (p := v) (by omega)]
  have pzE : ∀ j, j < 60 → pzC σ2 l2 j = pzC σ1 l2 j := fun j hj => by
    obtain ⟨va, vb, a1, a2, a3, a4, a5, a6, a7⟩ := val j hj
    by_cases z : kC σ1 (60 * (1 + pr) + j) = 0
    · rw [pz0 σ1 j hj hc h65 z, pz0 σ2 j hj k1 k65 (by rw [rk]; exact z)]
    · rw [pz1 σ1 j va hj a6 hc h65 z a1, pz1 σ2 j vb hj a7 k1 k65 (by rw [rk]; exact z) a3, a5]
  have W1 := U1
  have W2 := U2
  obtain ⟨u64, P, u63, hP, u65, _, ul, _⟩ := W1
  obtain ⟨v64, P', v63, hP', v65, _, vl, _⟩ := W2
  have eS : StS σ2 = StS σ1 := (n_eq (by omega) (by omega)).mp (v64.symm.trans ((hR.2.2.1 64 (by unfold AlS; omega)).symm.trans u64))
  have ple : suN (pzC σ1 l2) 60 ≤ StS σ1 := by
    have := StS_l (σ := σ1) (ρ := mAr σ1 30 1 (nI l2)) hc hl (by rw [mAr_s, upd_same]) (fun j hj => by rw [mAr_s, upd_other hj]) (mAr_o (by decide)) (kC_r (mAr_o (by decide)) (mAr_o (by decide)) rfl)
    omega
  have e214 : ∀ i, i < 60 → (214 : Int32) + 60 * nI l2 + nI i = nI (214 + 60 * l2 + i) := fun i hi => by
    rw [show (60 : Int32) * nI l2 = nI (60 * l2) from n_mulN 60 l2, show (214 : Int32) + nI (60 * l2) = nI (214 + 60 * l2) from n_add (p := 214) (by omega), n_add (by omega)]
  have e1p : (1 : Int32) + nI pr = nI (1 + pr) := n_add (p := 1) (by omega)
  -- block 9: the call is gone
  have b9 : ∀ (ρ1 ρ2 : MS) (M1 M2 : Nat → Int32), M1 3 = nI n0 → M2 3 = nI n0 → M1 4 = nI pr → M2 4 = nI pr → M1 5 = nI t → M2 5 = nI t → (∀ a, a ≠ 29 → ρ1.2.2 a = σ1.2.2 a) → (∀ a, a ≠ 29 → ρ2.2.2 a = σ2.2.2 a) → (∀ j, j ≠ 59 → j ≠ 64 → ρ1.1 j = σ1.1 j) → (∀ j, j ≠ 59 → j ≠ 64 → ρ2.1 j = σ2.1 j) → ρ1.2.1 = σ1.2.1 → ρ2.2.1 = σ2.2.1 → ρ1.1 59 = nI (t + np + 1) → ρ2.1 59 = nI (t + np + 1) → ρ1.1 64 = nI (StS σ1 - suN (pzC σ1 l2) 60) → ρ2.1 64 = nI (StS σ1 - suN (pzC σ1 l2) 60) → (∀ j, j < t → ρ1.2.2 29 j = σ1.2.2 29 j ∧ ρ2.2.2 29 j = σ2.2.2 29 j) → (∀ j, j < np → ρ1.2.2 29 (t + j) = σ1.2.2 30 (214 + 60 * l2 + j) ∧ ρ2.2.2 29 (t + j) = σ2.2.2 30 (214 + 60 * l2 + j)) → ρ1.2.2 29 (t + np) = x ∧ ρ2.2.2 29 (t + np) = y → T2 (fun k => x_giveBack k 9 M1 ρ1) (fun k => x_giveBack k 9 M2 ρ2) Q := by
    intro ρ1 ρ2 M1 M2 q3 p3 q4 p4 q5 p5 ra rb sa sb la lb ta tb za zb pa pb pc
    refine T2_suc (fun k => by rw [x_giveBack]) (fun k => by rw [x_giveBack]) ?_
    refine T2_chk (by decide) (by decide) ?_
    refine T2_chk (by decide) (by decide) ?_
    rw [show (1 : Int32).toNatClampNeg = 1 from by decide, ra 30 (by decide), rb 30 (by decide), hc, k1, n_sub1 (by omega), ← ra 30 (by decide), ← rb 30 (by decide)]
    show T2 (fun k => x_giveBack k 10 M1 (mAr ρ1 30 1 (nI l2))) (fun k => x_giveBack k 10 M2 (mAr ρ2 30 1 (nI l2))) Q
    have o : ∀ (ρ σ : MS) j, (∀ a, a ≠ 29 → ρ.2.2 a = σ.2.2 a) → j ≠ 1 → (mAr ρ 30 1 (nI l2)).2.2 30 j = σ.2.2 30 j := fun ρ σ j h hj => by rw [mAr_s, upd_other hj, h 30 (by decide)]
    have oo : ∀ (ρ σ : MS) a, (∀ a, a ≠ 29 → ρ.2.2 a = σ.2.2 a) → a ≠ 29 → a ≠ 30 → (mAr ρ 30 1 (nI l2)).2.2 a = σ.2.2 a := fun ρ σ a h h1 h2 => by rw [mAr_o h2, h a h1]
    have o1' : ∀ (ρ : MS), (mAr ρ 30 1 (nI l2)).2.2 30 1 = nI l2 := fun ρ => by rw [mAr_s, upd_same]
    have fc : ∀ (ρ σ : MS), (∀ a, a ≠ 29 → ρ.2.2 a = σ.2.2 a) → (∀ j, j ≠ 59 → j ≠ 64 → ρ.1 j = σ.1 j) → FCt (fun i => i = 1) σ (mAr ρ 30 1 (nI l2)) := fun ρ σ hr hs => by
      refine ⟨fun j _ _ h3 _ h5 => hs j h3 h5, fun a i ha hz _ hI => ?_, oo ρ σ 2 hr (by decide) (by decide)⟩
      by_cases e : a = 30
      · subst e; exact o ρ σ i hr (fun e => hI ⟨rfl, e⟩)
      · rw [oo ρ σ a hr (by unfold AlR at ha; omega) e]
    have ut : ∀ (ρ σ : MS), UT σ → (∀ a, a ≠ 29 → ρ.2.2 a = σ.2.2 a) → (∀ j, j ≠ 59 → j ≠ 64 → ρ.1 j = σ.1 j) → σ.2.2 30 1 = nI (l2 + 1) → ρ.1 64 = nI (StS σ - suN (pzC σ l2) 60) → UT (mAr ρ 30 1 (nI l2)) := fun ρ σ U hr hs h1 h64 => by
      have sS := StS_l (σ := σ) (ρ := mAr ρ 30 1 (nI l2)) h1 hl (o1' ρ) (fun j hj => o ρ σ j hr hj) (oo ρ σ 28 hr (by decide) (by decide)) (kC_r (oo ρ σ 20 hr (by decide) (by decide)) (oo ρ σ 21 hr (by decide) (by decide)) (hs 30 (by decide) (by decide)))
      obtain ⟨cc, c1, c2, c3⟩ := UT_cw U
      have ecc : cc = l2 + 1 := (n_eq (by omega) (by omega)).mp (c1.symm.trans h1)
      refine UT_30 U (fun a h1 h2 => oo ρ σ a hr h2 h1) (hs 63 (by decide) (by decide)) (hs 65 (by decide) (by decide)) (hs 30 (by decide) (by decide)) ?_ (Or.inl (by omega)) (fun i c n => ?_) ⟨l2, o1' ρ, by omega, fun i hi => ?_⟩
      · show ρ.1 64 = _
        rw [h64]; congr 1; omega
      · have c' : StI (σ.2.2 30) 0 i ∧ i ≠ 1 := by
          unfold StI at c ⊢
          rw [show (0 + 1) = 1 from rfl, o1' ρ, o ρ σ (0 + 3) hr (by omega), n_cl (p := l2) (by omega)] at c
          rw [show (0 + 1) = 1 from rfl, h1, n_cl (p := l2 + 1) (by omega)]
          omega
        rw [o ρ σ i hr c'.2]
        exact UT_nu U i c'.1 ((NUa_m (fun j h1 h2 _ => o ρ σ _ hr (by omega))).mp n)
      · rw [o ρ σ _ hr (by omega)]
        exact c3 i (by omega)
    refine hQ _ _ M1 M2 q3 p3 q4 p4 q5 p5 ?_ (ut ρ1 σ1 U1 ra sa hc za) (ut ρ2 σ2 U2 rb sb k1 (by rw [zb, eS, suN_c (f := pzC σ2 l2) (g := pzC σ1 l2) (fun j hj => pzE j hj)])) (fc ρ1 σ1 ra sa) (fc ρ2 σ2 rb sb) (o1' ρ1) (fun q hq h => ItS_c (σ := σ1) hq (oo ρ1 σ1 28 ra (by decide) (by decide)) (fun i hi => o ρ1 σ1 i ra (by omega)) h)
    have sv : ∀ (σ : MS) (x : Int32) j, j ≠ 59 → (mPu σ t x).1 j = σ.1 j := fun σ x j hj => mPu_s hj
    have rv : ∀ (σ : MS) (x : Int32) a, a ≠ 29 → (mPu σ t x).2.2 a = σ.2.2 a := fun σ x a ha => mPu_o ha
    have pv : ∀ (σ : MS) (x : Int32) j, j ≠ t → (mPu σ t x).2.2 29 j = σ.2.2 29 j := fun σ x j hj => by
      show (mAr σ 29 t x).2.2 29 j = _
      rw [mAr_s, upd_other hj]
    have pt : ∀ (σ : MS) (x : Int32), (mPu σ t x).2.2 29 t = x := fun σ x => by
      show (mAr σ 29 t x).2.2 29 t = _
      rw [mAr_s, upd_same]
    refine EI_mv hV (fun j hj => ?_) (fun j hj => ?_) la lb (fun a h1 h2 _ _ _ => ?_) (fun a h1 h2 _ _ _ => ?_) ta ?_ (fun j hj hn => ?_) (fun j hj hn => ?_) (fun j hn => ?_) (fun j hj => ?_) (fun a j ha z => ?_)
    · rw [sv _ _ _ (by omega)]; exact sa j (by omega) (by omega)
    · rw [sv _ _ _ (by omega)]; exact sb j (by omega) (by omega)
    · rw [rv _ _ _ h1]; exact oo ρ1 σ1 a ra h1 h2
    · rw [rv _ _ _ h1]; exact oo ρ2 σ2 a rb h1 h2
    · obtain ⟨P, e, y1, y2, y3, y4, ⟨c, n, z1, z2, z3, z4⟩, y6⟩ := m1.2.1
      refine ⟨P, e, (sa 63 (by decide) (by decide)).trans y1, y2, (sa 72 (by decide) (by decide)).trans y3, y4, ⟨l2, n, o1' ρ1, by omega, (o ρ1 σ1 _ ra (by omega)).trans z3, z4⟩, ?_⟩
      rw [oo ρ1 σ1 31 ra (by decide) (by decide)]; exact y6
    · by_cases e : j = 1
      · rw [e, o1', o1']
      · rw [o ρ1 σ1 j ra e, o ρ2 σ2 j rb e]
        refine hR.2.1 30 j (by unfold AlR; omega) hj (fun y => hn (InA_n30 (fun k hk => ?_) y))
        by_cases ek : k = 1
        · rw [ek, o1' ρ1, hc, n_cl (p := l2) (by omega), n_cl (p := l2 + 1) (by omega)]; omega
        · rw [o ρ1 σ1 k ra ek]; exact Nat.le_refl _
    · rw [oo ρ1 σ1 31 ra (by decide) (by decide), oo ρ2 σ2 31 rb (by decide) (by decide)]; exact hR.2.1 31 j (by unfold AlR; omega) hj (fun y => hn (InA_31 (σ := σ1) (sa 63 (by decide) (by decide)) (oo ρ1 σ1 31 ra (by decide) (by decide)) y))
    · rw [oo ρ1 σ1 32 ra (by decide) (by decide), oo ρ2 σ2 32 rb (by decide) (by decide)]; exact hR.2.1 32 j (by unfold AlR; omega) (by unfold Zn; omega) (fun y => hn (InA_32 (σ := σ1) (sa 63 (by decide) (by decide)) y))
    · show ρ1.1 j = ρ2.1 j
      by_cases e : j = 64
      · rw [e, za, zb]
      · by_cases e2 : j = 59
        · rw [e2, ta, tb]
        · rw [sa j e2 e, sb j e2 e]; exact hR.2.2.1 j hj
    · have q29 : ∀ (ρ : MS) j, (mAr ρ 30 1 (nI l2)).2.2 29 j = ρ.2.2 29 j := fun ρ j => by rw [mAr_o (by decide)]
      by_cases e29 : a = 29
      · subst e29
        have hj : j < t + np + 1 := by
          rcases z with z | z
          · exact z.2
          · exfalso
            rcases z with z | z | z | z | z | z | z | z
            · omega
            · have := z.1; omega
            · omega
            · omega
            · omega
            · omega
            · omega
            · omega
        rw [q29, q29]
        by_cases c1 : j < t
        · exact Or.inl ⟨29, j, by unfold VwR; omega, Or.inl ⟨rfl, by omega⟩, by rw [pv _ _ _ (by omega)]; exact (pa j c1).1, by rw [pv _ _ _ (by omega)]; exact (pa j c1).2⟩
        · by_cases c2 : j < t + np
          · have pb' := pb (j - t) (by omega)
            rw [show t + (j - t) = j by omega] at pb'
            refine Or.inl ⟨30, 214 + 60 * l2 + (j - t), by unfold VwR; omega, Or.inr (Or.inl ⟨rfl, ?_⟩), by rw [rv _ _ _ (by decide)]; exact pb'.1, by rw [rv _ _ _ (by decide)]; exact pb'.2⟩
            rw [rv _ _ _ (by decide)]; exact stp _ (by omega)
          · have e : j = t + np := by omega
            rw [e]
            exact Or.inl ⟨29, t, by unfold VwR; omega, Or.inl ⟨rfl, by omega⟩, by rw [pt]; exact pc.1, by rw [pt]; exact pc.2⟩
      · have z' : RtP (t + 1) (mPu σ1 t x) a j ∧ (a = 30 → j ≠ 1) := by
          rcases z with z | ⟨z, y⟩ | ⟨z, p, hp, y⟩ | z | z
          · exact absurd z.1 e29
          · have y' : StI (σ1.2.2 30) 0 j ∧ j ≠ 1 := by
              unfold StI at y ⊢
              rw [show (0 + 1) = 1 from rfl, o1' ρ1, o ρ1 σ1 (0 + 3) ra (by omega), n_cl (p := l2) (by omega)] at y
              rw [show (0 + 1) = 1 from rfl, hc, n_cl (p := l2 + 1) (by omega)]
              omega
            refine ⟨Or.inr (Or.inl ⟨z, ?_⟩), fun _ => y'.2⟩
            rw [rv _ _ _ (by decide)]; exact y'.1
          · refine ⟨Or.inr (Or.inr (Or.inl ⟨z, p, ?_, ?_⟩)), fun e => by omega⟩
            · rw [sv _ _ _ (by decide)]
              have : (mAr ρ1 30 1 (nI l2)).1 63 = σ1.1 63 := sa 63 (by decide) (by decide)
              rw [this] at hp; exact hp
            · rw [rv _ _ _ (by decide)]
              rw [oo ρ1 σ1 31 ra (by decide) (by decide)] at y; exact y
          · exact ⟨Or.inr (Or.inr (Or.inr (Or.inl z))), fun e => by omega⟩
          · have : a = 34 ∨ a = 36 ∨ a = 37 ∨ a = 38 ∨ a = 40 := by omega
            omega
        refine Or.inl ⟨a, j, by unfold VwR; omega, z'.1, ?_, ?_⟩
        · rw [rv _ _ _ e29]
          by_cases e : a = 30
          · subst e; exact o ρ1 σ1 j ra (z'.2 rfl)
          · rw [oo ρ1 σ1 a ra e29 e]
        · rw [rv _ _ _ e29]
          by_cases e : a = 30
          · subst e; exact o ρ2 σ2 j rb (z'.2 rfl)
          · rw [oo ρ2 σ2 a rb e29 e]
  -- blocks 5 to 8: sizes are taken away
  have b5 : ∀ (d i : Nat) (ρ1 ρ2 : MS) (M1 M2 : Nat → Int32), d + i = ns → M1 2 = nI l2 → M2 2 = nI l2 → M1 3 = nI n0 → M2 3 = nI n0 → M1 4 = nI pr → M2 4 = nI pr → M1 5 = nI t → M2 5 = nI t → M1 6 = nI i → M2 6 = nI i → (∀ a, a ≠ 29 → ρ1.2.2 a = σ1.2.2 a) → (∀ a, a ≠ 29 → ρ2.2.2 a = σ2.2.2 a) → (∀ j, j ≠ 59 → j ≠ 64 → ρ1.1 j = σ1.1 j) → (∀ j, j ≠ 59 → j ≠ 64 → ρ2.1 j = σ2.1 j) → ρ1.2.1 = σ1.2.1 → ρ2.2.1 = σ2.2.1 → ρ1.1 59 = nI (t + np + 1) → ρ2.1 59 = nI (t + np + 1) → ρ1.1 64 = nI (StS σ1 - suN (pzC σ1 l2) i) → ρ2.1 64 = nI (StS σ1 - suN (pzC σ1 l2) i) → (∀ j, j < t → ρ1.2.2 29 j = σ1.2.2 29 j ∧ ρ2.2.2 29 j = σ2.2.2 29 j) → (∀ j, j < np → ρ1.2.2 29 (t + j) = σ1.2.2 30 (214 + 60 * l2 + j) ∧ ρ2.2.2 29 (t + j) = σ2.2.2 30 (214 + 60 * l2 + j)) → ρ1.2.2 29 (t + np) = x ∧ ρ2.2.2 29 (t + np) = y → T2 (fun k => x_giveBack k 5 M1 ρ1) (fun k => x_giveBack k 5 M2 ρ2) Q := by
    intro d
    induction d with
    | zero =>
      intro i ρ1 ρ2 M1 M2 hd q2 p2 q3 p3 q4 p4 q5 p5 q6 p6 ra rb sa sb la lb ta tb za zb pa pb pc
      have ei : i = ns := by omega
      subst ei
      have ex : suN (pzC σ1 l2) 60 = suN (pzC σ1 l2) i := suN_ex hns (fun j h1 h2 => pz0 σ1 j h2 hc h65 (t20 j h1 h2))
      refine T2_suc (fun k => by rw [x_giveBack]) (fun k => by rw [x_giveBack]) ?_
      rw [q4, p4, q6, p6, e1p]
      refine T2_chk (n_in (by omega) (by omega)) (n_in (by omega) (by omega)) ?_
      rw [n_cl (p := 1 + pr) (by omega), ra 21 (by decide), rb 21 (by decide), r21, t21]
      refine T2_ite Iff.rfl (fun _ _ => ?_) (fun z _ => absurd (Int32.le_refl _) z)
      exact b9 ρ1 ρ2 M1 M2 q3 p3 q4 p4 q5 p5 ra rb sa sb la lb ta tb (by rw [ex]; exact za) (by rw [ex]; exact zb) pa pb pc
    | succ d ih =>
      intro i ρ1 ρ2 M1 M2 hd q2 p2 q3 p3 q4 p4 q5 p5 q6 p6 ra rb sa sb la lb ta tb za zb pa pb pc
      have i6 : i < 60 := by omega
      obtain ⟨va, vb, a1, a2, a3, a4, a5, a6, a7⟩ := val i i6
      have pm := suN_mo (f := pzC σ1 l2) (n := i + 1) (m := 60) (by omega)
      have pe : suN (pzC σ1 l2) (i + 1) = suN (pzC σ1 l2) i + pzC σ1 l2 i := rfl
      have e60 : (60 : Int32) * nI (1 + pr) = nI (60 * (1 + pr)) := n_mulN 60 (1 + pr)
      -- block 7
      have b7 : ∀ (K1 K2 : Nat → Int32), K1 2 = nI l2 → K2 2 = nI l2 → K1 3 = nI n0 → K2 3 = nI n0 → K1 4 = nI pr → K2 4 = nI pr → K1 5 = nI t → K2 5 = nI t → K1 6 = nI i → K2 6 = nI i → K1 100 = nI (pzC σ1 l2 i) → K2 100 = nI (pzC σ1 l2 i) → K1 101 = ρ1.1 64 → K2 101 = ρ2.1 64 → T2 (fun k => x_giveBack k 7 K1 ρ1) (fun k => x_giveBack k 7 K2 ρ2) Q := by
        intro K1 K2 c2 e2 c3 e3 c4 e4 c5 e5 c6 e6 c100 e100 c101 e101
        have ar : nI (StS σ1 - suN (pzC σ1 l2) i) - nI (pzC σ1 l2 i) = nI (StS σ1 - suN (pzC σ1 l2) (i + 1)) := by
          rw [n_sub (by omega) (by omega)]; congr 1; omega
        refine T2_suc (fun k => by rw [x_giveBack]) (fun k => by rw [x_giveBack]) ?_
        rw [c100, e100, c101, e101, za, zb, ar]
        refine T2_suc (fun k => by rw [x_giveBack]) (fun k => by rw [x_giveBack]) ?_
        rw [c6, e6, n_add1]
        exact ih (i + 1) (mSc ρ1 64 (nI (StS σ1 - suN (pzC σ1 l2) (i + 1)))) (mSc ρ2 64 (nI (StS σ1 - suN (pzC σ1 l2) (i + 1)))) _ _ (by omega) c2 e2 c3 e3 c4 e4 c5 e5 rfl rfl ra rb (fun j h1 h2 => (upd_other h2).trans (sa j h1 h2)) (fun j h1 h2 => (upd_other h2).trans (sb j h1 h2)) la lb ta tb rfl rfl pa pb pc
      refine T2_suc (fun k => by rw [x_giveBack]) (fun k => by rw [x_giveBack]) ?_
      rw [q4, p4, q6, p6, q2, p2, e1p, e60, n_add (p := 60 * (1 + pr)) (by omega), e214 i i6]
      refine T2_chk (n_in (by omega) (by omega)) (n_in (by omega) (by omega)) ?_
      rw [n_cl (p := 1 + pr) (by omega), ra 21 (by decide), rb 21 (by decide), r21, t21]
      refine T2_ite Iff.rfl (fun z _ => ?_) (fun _ _ => ?_)
      · have := (n_le (by omega) (by omega)).mp z
        omega
      refine T2_chk (n_in (by omega) (by omega)) (n_in (by omega) (by omega)) ?_
      rw [n_cl (p := 60 * (1 + pr) + i) (by omega), ra 20 (by decide), rb 20 (by decide), ← kC_in (σ := σ1) (u := 1 + pr) i6 (by rw [t21, n_cl (p := ns) (by omega)]; omega) (by omega), ← kC_in (σ := σ2) (u := 1 + pr) i6 (by rw [r21, t21, n_cl (p := ns) (by omega)]; omega) (by rw [c30]; omega), rk]
      refine T2_ite Iff.rfl (fun z _ => ?_) (fun z _ => ?_)
      · have p0 := pz0 σ1 i i6 hc h65 z
        refine T2_suc (fun k => by rw [x_giveBack]) (fun k => by rw [x_giveBack]) ?_
        exact b7 _ _ q2 p2 q3 p3 q4 p4 q5 p5 q6 p6 (by rw [p0]; rfl) (by rw [p0]; rfl) rfl rfl
      · have p0 := pz1 σ1 i va i6 a6 hc h65 z a1
        refine T2_chk (n_in (by omega) (by omega)) (n_in (by omega) (by omega)) ?_
        rw [n_cl (p := 214 + 60 * l2 + i) (by omega), ra 30 (by decide), rb 30 (by decide), a1, a3]
        refine T2_ob (T2_t (s_size (σ := ρ1) (HS_c m1.1 (sa 54 (by decide) (by decide)) (sa 55 (by decide) (by decide)) (ra 28 (by decide))) a2 rfl) (s_size (σ := ρ2) (HS_c m2.1 (sb 54 (by decide) (by decide)) (sb 55 (by decide) (by decide)) (rb 28 (by decide))) a4 rfl)) (fun y1 y2 hy => ?_)
        rw [hy.1, hy.2, ra 28 (by decide), rb 28 (by decide), a5, ← p0]
        exact b7 _ _ q2 p2 q3 p3 q4 p4 q5 p5 q6 p6 rfl rfl rfl rfl
  -- block 3: params
  have b3 : ∀ (d i : Nat) (ρ1 ρ2 : MS) (M1 M2 : Nat → Int32), d + i = np → M1 1 = x → M2 1 = y → M1 2 = nI l2 → M2 2 = nI l2 → M1 3 = nI n0 → M2 3 = nI n0 → M1 4 = nI pr → M2 4 = nI pr → M1 5 = nI t → M2 5 = nI t → M1 6 = nI i → M2 6 = nI i → PBp t l2 i σ1 ρ1 → PBp t l2 i σ2 ρ2 → T2 (fun k => x_giveBack k 3 M1 ρ1) (fun k => x_giveBack k 3 M2 ρ2) Q := by
    intro d
    induction d with
    | zero =>
      intro i ρ1 ρ2 M1 M2 hd q1 p1 q2 p2 q3 p3 q4 p4 q5 p5 q6 p6 h1 h2
      have ei : i = np := by omega
      subst ei
      obtain ⟨ra, sa, la, ta, pa, pb⟩ := h1
      obtain ⟨rb, sb, lb, tb, pa', pb'⟩ := h2
      refine T2_suc (fun k => by rw [x_giveBack]) (fun k => by rw [x_giveBack]) ?_
      rw [q4, p4, q6, p6]
      refine T2_chk (n_in (by omega) (by omega)) (n_in (by omega) (by omega)) ?_
      rw [n_cl (p := pr) (by omega), ra 18 (by decide), rb 18 (by decide), r18, t18]
      refine T2_ite Iff.rfl (fun _ _ => ?_) (fun z _ => absurd (Int32.le_refl _) z)
      refine T2_suc (fun k => by rw [x_giveBack]) (fun k => by rw [x_giveBack]) ?_
      rw [q1, p1]
      refine T2_ob (T2_t (s_push ta (by omega) _) (s_push tb (by omega) _)) (fun y1 y2 hy => ?_)
      rw [hy.1, hy.2]
      show T2 (fun k => x_giveBack k 5 (upd M1 6 0) (mPu ρ1 (t + i) x)) (fun k => x_giveBack k 5 (upd M2 6 0) (mPu ρ2 (t + i) y)) Q
      have pv : ∀ (ρ : MS) (x : Int32) j, j ≠ t + i → (mPu ρ (t + i) x).2.2 29 j = ρ.2.2 29 j := fun ρ x j hj => by
        show (mAr ρ 29 (t + i) x).2.2 29 j = _
        rw [mAr_s, upd_other hj]
      have pt : ∀ (ρ : MS) (x : Int32), (mPu ρ (t + i) x).2.2 29 (t + i) = x := fun ρ x => by
        show (mAr ρ 29 (t + i) x).2.2 29 (t + i) = _
        rw [mAr_s, upd_same]
      refine b5 ns 0 (mPu ρ1 (t + i) x) (mPu ρ2 (t + i) y) _ _ (by omega) q2 p2 q3 p3 q4 p4 q5 p5 rfl rfl (fun a ha => (mPu_o ha).trans (ra a ha)) (fun a ha => (mPu_o ha).trans (rb a ha)) (fun j h1 _ => (mPu_s h1).trans (sa j h1)) (fun j h1 _ => (mPu_s h1).trans (sb j h1)) la lb rfl rfl ?_ ?_ (fun j hj => ⟨(pv _ _ _ (by omega)).trans (pa j hj), (pv _ _ _ (by omega)).trans (pa' j hj)⟩) (fun j hj => ⟨(pv _ _ _ (by omega)).trans (pb j hj), (pv _ _ _ (by omega)).trans (pb' j hj)⟩) ⟨pt _ _, pt _ _⟩
      · rw [mPu_s (by decide), sa 64 (by decide)]; exact u64
      · rw [mPu_s (by decide), sb 64 (by decide), v64, eS]; rfl
    | succ d ih =>
      intro i ρ1 ρ2 M1 M2 hd q1 p1 q2 p2 q3 p3 q4 p4 q5 p5 q6 p6 h1 h2
      obtain ⟨ra, sa, la, ta, pa, pb⟩ := id h1
      obtain ⟨rb, sb, lb, tb, pa', pb'⟩ := id h2
      refine T2_suc (fun k => by rw [x_giveBack]) (fun k => by rw [x_giveBack]) ?_
      rw [q4, p4, q6, p6, q2, p2, e214 i (by omega)]
      refine T2_chk (n_in (by omega) (by omega)) (n_in (by omega) (by omega)) ?_
      rw [n_cl (p := pr) (by omega), ra 18 (by decide), rb 18 (by decide), r18, t18]
      refine T2_ite Iff.rfl (fun z _ => ?_) (fun _ _ => ?_)
      · have := (n_le (by omega) (by omega)).mp z
        omega
      refine T2_chk (n_in (by omega) (by omega)) (n_in (by omega) (by omega)) ?_
      rw [n_cl (p := 214 + 60 * l2 + i) (by omega), ra 30 (by decide), rb 30 (by decide)]
      refine T2_ob (T2_t (s_push ta (by omega) _) (s_push tb (by omega) _)) (fun y1 y2 hy => ?_)
      rw [hy.1, hy.2, n_add1]
      exact ih (i + 1) _ _ _ _ (by omega) q1 p1 q2 p2 q3 p3 q4 p4 q5 p5 rfl rfl (PB_pu h1) (PB_pu h2)
  refine T2_suc (fun k => by rw [x_giveBack]) (fun k => by rw [x_giveBack]) ?_
  rw [s1, s2]
  exact b3 np 0 σ1 σ2 _ _ (by omega) n1 o1 n2 o2 n3 o3 n4 o4 rfl rfl rfl rfl ⟨fun _ _ => rfl, fun _ _ => rfl, rfl, s1, fun _ _ => rfl, fun j hj => by omega⟩ ⟨fun _ _ => rfl, fun _ _ => rfl, rfl, s2, fun _ _ => rfl, fun j hj => by omega⟩
end GBF
