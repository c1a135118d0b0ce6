/-! Statements on both sides (reference): an answer in place of what lies at the top; a target is written. -/
section OPQ
variable {t w XC : Nat} {σ σ1 σ2 : MS}
/-- an operation that may leave something upon the pile with an error -/
theorem E_opq {W c : Nat} {g1 g2 : Nat → Prop} {l1 l2 : List Nat} {B1 h1 X1 B2 h2 X2 KK : Nat} {Y1 Y2 : Nat → Option (Int32 × MS)} (hW : W ≤ 2000) (hX : EIx t w XC σ1 σ2 g1 l1 B1 h1 X1 g2 l2 B2 h2 X2) (v1 : Tm Y1 (VQ g1 B1 h1 t W σ1)) (v2 : Tm Y2 (VQ g2 B2 h2 t W σ2)) (kq : ∀ n, Pm n Y1 Y2 (KQ h1 h2 KK)) (k1 : ∀ k, Wk (Y1 k) σ1.2.1) (k2 : ∀ k, Wk (Y2 k) σ2.2.1) (hc : h1 + KK + c ≤ B1 + 870000 ∧ h2 + KK + c ≤ B2 + 870000) : T2 Y1 Y2 (fun r1 r2 => SO t w XC g1 σ1 r1 ∧ SO t w XC g2 σ2 r2 ∧ KS c r1 r2 ∧ r1.2.1 95 = σ1.1 95 ∧ r2.2.1 95 = σ2.1 95) := by
  obtain ⟨m1, m2, hR, i1, i2, t1, e1, e2, w1, hw, x1, x2, _⟩ := hX
  have w2 : σ2.1 57 = nI w := (hR.2.2.1 57 (by unfold AlS; omega)).symm.trans w1
  refine T2_mono (T2_of v1 v2 (fun n => Pm_wl k1 k2 (kq n))) (fun r1 r2 hr => ?_)
  obtain ⟨⟨hq, a1, a2⟩, b1, b2⟩ := hr
  have c1 := b1
  have c2 := b2
  obtain ⟨_, _, _, _, f1, _⟩ := c1
  obtain ⟨_, _, _, _, f2, _⟩ := c2
  refine ⟨SO_of hW m1 w1 hw.1 x1 b1, SO_of hW m2 w2 hw.1 x2 b2, ⟨KR_of (VQ_54 b1) (VQ_54 b2) hc hq ?_, ?_⟩, f1.1 95 (by decide), f2.1 95 (by decide)⟩
  · rw [f1.1 57 (by decide), f2.1 57 (by decide), w1, w2]
  · rw [a1, a2]; exact hR.2.2.2
/-- with an error: a value is put at a place of the pile -/
theorem EZ_st {g : Nat → Prop} {l : List Nat} {B h X a b i t' : Nat} {x : Int32} (hM : MI t' X g l B h σ) (h59 : σ.1 59 = nI t') (ha : a ≤ t') (hb : t' ≤ b) (hi : i < t') (he : ¬ σ.1 56 = 0) (hE : ErB σ) (hw : ∃ w, σ.1 57 = nI w ∧ w ≤ 80000) (hc : ∃ c, σ.1 95 = nI c ∧ c ≤ 1000000) (hx : Vd g x) : EZ a b (mAr σ 29 i x) := by
  obtain ⟨m, m1, m2⟩ := hx
  rw [m1]
  have hM1 := MI_set (MI_mo hM (show i ≤ t' by omega)) m2
  refine ⟨g, l, B, h, t', MI_any hM1.1 hM1.2.1 (fun c j z => ?_), h59, ha, hb, he, hE, hw, hc⟩
  have z' : RtP t' σ c j := (RtP_c (σ := σ) (τ := mAr σ 29 i (nI m)) rfl rfl (mAr_o (by decide)) (mAr_o (by decide)) c j).mp z
  by_cases e : c = 29
  · subst e
    rw [mAr_s]
    by_cases e2 : j = i
    · rw [e2, upd_same]; exact ⟨m, rfl, m2⟩
    · rw [upd_other e2]; exact hM.2.2.1 29 j z'
  · rw [mAr_o e]; exact hM.2.2.1 c j z'
theorem mPu_at {x : Int32} (h : σ.1 59 = nI (t + 1)) : mPu σ t x = mAr σ 29 t x := by
  unfold mPu; exact mSc_self h
end OPQ
section ANS
variable {g1 g2 : Nat → Prop} {l1 l2 : List Nat} {B1 h1 B2 h2 X1 X2 t w XC : Nat} {ρ1 ρ2 : MS}
/-- an answer is counted and put where the top's value lies -/
theorem E_anS {c : Nat} {Q : Int32 × MS → Int32 × MS → Prop} {F1 F2 : Nat → Int32 × MS → Option (Int32 × MS)} {r1 r2 : Int32 × MS} (m1 : MI (t + 1) X1 g1 l1 B1 h1 ρ1) (m2 : MI (t + 1) X2 g2 l2 B2 h2 ρ2) (hR : RA (t + 1) g1 g2 ρ1 ρ2) (i1 : IT g1 ρ1) (i2 : IT g2 ρ2) (ht : t ≤ 176000 ∧ XC - 400000 + 10 ≤ c) (hT : TyT (ρ1.2.2 2)) (hT2 : ρ1.2.2 2 = ρ2.2.2 2) (ha : ∃ a, r1.2.1 95 = nI a ∧ a ≤ 1000000) (ha2 : r1.2.1 95 = r2.2.1 95)
    (s1 : SO (t + 1) w XC g1 ρ1 r1) (s2 : SO (t + 1) w XC g2 ρ2 r2) (hK : KS c r1 r2) (hQ : ∀ v1 v2 : Int32 × MS, FE ρ1 (mAr v1.2 29 t v1.1) → FE ρ2 (mAr v2.2 29 t v2.1) → PKp t ρ1 (mAr v1.2 29 t v1.1) → ((∃ w', w ≤ w' ∧ EI (t + 1) w' XC (mAr v1.2 29 t v1.1) (mAr v2.2 29 t v2.1)) ∨ (EZ (t + 1) (t + 2001) (mAr v1.2 29 t v1.1) ∧ EZ (t + 1) (t + 2001) (mAr v2.2 29 t v2.1))) → T2 (fun k => F1 k v1) (fun k => F2 k v2) Q) :
    T2 (fun k => ob (x_answer k 0 (upd (fun _ => 0) 1 r1.1) r1.2) (F1 k)) (fun k => ob (x_answer k 0 (upd (fun _ => 0) 1 r2.1) r2.2) (F2 k)) Q := by
  obtain ⟨gA, lA, BA, hA, XA, wA, tA, a1, a2, a3, a4, a5, a6, a7, ⟨a8, a9, a10, a11⟩, a12⟩ := s1
  obtain ⟨gB, lB, BB, hB, XB, wB, tB, b1, b2, b3, b4, b5, b6, b7, ⟨b8, b9, b10, b11⟩, b12⟩ := s2
  have f1 := FE_eo m1.2.1 a2
  have f2 := FE_eo m2.2.1 b2
  obtain ⟨c1, c2, c3⟩ := a3
  obtain ⟨d1, d2, d3⟩ := b3
  have ha' : ∃ a, r2.2.1 95 = nI a ∧ a ≤ 1000000 := by rw [← ha2]; exact ha
  by_cases er : r1.2.1 56 = 0
  · have er2 := hK.1.1.mp er
    obtain ⟨⟨⟨rB1, rh1, rm1, rm2, rm3, rm4⟩, ⟨rB2, rh2, rn1, rn2, rn3, rn4⟩⟩, k57, u, v, k1, k2, k3, k4, k5⟩ := hK.1.2 er
    have room : hA + (XC - 400000) + 10 ≤ BA + 870000 ∧ hB + (XC - 400000) + 10 ≤ BB + 870000 := by
      have p1 := HS_b a1.1
      have p2 := HS_b b1.1
      have p3 := a1.1.2.1
      have p4 := b1.1.2.1
      have e1 : BA = rB1 := (n_eq (by omega) (by omega)).mp (a1.1.1.symm.trans rm1)
      have e2 : BB = rB2 := (n_eq (by omega) (by omega)).mp (b1.1.1.symm.trans rn1)
      have e3 : hA = rh1 := (n_eq (by omega) (by omega)).mp (a1.1.2.2.1.symm.trans rm3)
      have e4 : hB = rh2 := (n_eq (by omega) (by omega)).mp (b1.1.2.2.1.symm.trans rn3)
      omega
    have e1 : tA = t + 1 := a11.resolve_right (fun z => z er)
    have e2 : tB = t + 1 := b11.resolve_right (fun z => z er2)
    subst e1
    subst e2
    have ew : wB = wA := by
      have z := b5.symm.trans (k57.symm.trans a5)
      exact (n_eq (by omega) (by omega)).mp z
    subst ew
    have bc := HS_vb a1.1 c3
    have bd := HS_vb b1.1 d3
    have eu : c1 = u := (n_eq (by omega) (by omega)).mp (c2.symm.trans k1)
    have ev : d1 = v := (n_eq (by omega) (by omega)).mp (d2.symm.trans k2)
    subst eu
    subst ev
    have hR' := RA_step m1.2.1 m2.2.1 hR a2 b2 k57 (a8.trans b8.symm) hK.2
    have j1 : IT gA r1.2 := IT_eo m1.2.1 m1.1 (Or.inr ⟨BA, hA, a1.1⟩) a2 i1
    have j2 : IT gB r2.2 := IT_eo m2.2.1 m2.1 (Or.inr ⟨BB, hB, b1.1⟩) b2 i2
    have x1 := a12 er
    have x2 := b12 er2
    refine T2_ob (T2_of (s_answer a1.1 c3 a5 (by omega) (by exact c2)) (s_answer b1.1 d3 b5 (by omega) (by exact d2)) (fun n => Pm_wl (fun k => wl_answer k _ _ _) (fun k => wl_answer k _ _ _) (k_answer a1.1 b1.1 c3 d3 k5 er er2 a5 b5 (by omega) (by exact c2) (by exact d2)))) (fun z1 z2 hz => ?_)
    obtain ⟨⟨⟨y1, y2, y3, y4⟩, wl1, wl2⟩, _, _⟩ := hz
    have ys1 : ∀ j, j ≠ 56 → j ≠ 57 → z1.2.1 j = r1.2.1 j := fun j q1 q2 => WkO_s y3 q1 q2
    have ys2 : ∀ j, j ≠ 56 → j ≠ 57 → z2.2.1 j = r2.2.1 j := fun j q1 q2 => WkO_s y4 q1 q2
    have n1 : MI (t + 1) XA gA lA BA hA z1.2 := MI_c a1 (ys1 54 (by decide) (by decide)) (ys1 55 (by decide) (by decide)) (ys1 63 (by decide) (by decide)) (ys1 72 (by decide) (by decide)) (WkO_a y3)
    have n2 : MI (t + 1) XB gB lB BB hB z2.2 := MI_c b1 (ys2 54 (by decide) (by decide)) (ys2 55 (by decide) (by decide)) (ys2 63 (by decide) (by decide)) (ys2 72 (by decide) (by decide)) (WkO_a y4)
    have z59 : z1.2.1 59 = nI (t + 1) := (ys1 59 (by decide) (by decide)).trans a8
    have w59 : z2.2.1 59 = nI (t + 1) := (ys2 59 (by decide) (by decide)).trans b8
    have s28 : z1.2.2.2 28 = r1.2.2.2 28 := congrFun (WkO_a y3) 28
    have t28 : z2.2.2.2 28 = r2.2.2.2 28 := congrFun (WkO_a y4) 28
    refine hQ z1 z2 (FE_tr f1 (FE_tr (FE_wk y3) FE_pile)) (FE_tr f2 (FE_tr (FE_wk y4) FE_pile)) (PK_tr (PK_mo (by omega) (PK_eo a2)) (PK_tr (PK_28 (congrFun (WkO_a y3) 28) (fun i _ => congrFun (congrFun (WkO_a y3) 29) i)) (PK_pi (Nat.le_refl _)))) ?_
    rw [y1, y2]
    by_cases le : wB + szN (r1.2.2.2 28) c1 ≤ 60000
    · have zr1 := (WkO_er er y3).mpr le
      have zr2 := (WkO_er er2 y4).mpr le
      have y57 : z1.2.1 57 = nI (wB + szN (r1.2.2.2 28) c1) := WkO_57 y3
      rw [← mPu_at z59, ← mPu_at w59]
      refine Or.inl ⟨wB + szN (r1.2.2.2 28) c1, by omega, gA, lA, BA, hA, XA + 6 * szN (z1.2.2.2 28) c1, gB, lB, BB, hB, XB + 6 * szN (z2.2.2.2 28) d1, MI_pu (MI_mo n1 (by omega)) c3, MI_pu (MI_mo n2 (by omega)) d3, ?_, ?_, ?_, rfl, ?_, ?_, ?_, ⟨le, room⟩, ?_, ?_, ⟨?_, ?_⟩, ?_⟩
      · refine RA_pu n1.2.1 (RA_c (RA_mo (by omega) hR') (WkO_a y3) (WkO_a y4) (ys1 63 (by decide) (by decide)) (ys1 72 (by decide) (by decide)) (ys1 22 (by decide) (by decide)) (ys1 24 (by decide) (by decide)) (ys1 30 (by decide) (by decide)) (ys1 44 (by decide) (by decide)) (fun j hj => ?_) ?_) ?_
        · by_cases e57 : j = 57
          · rw [e57, y57, WkO_57 y4]
          · rw [ys1 j (by unfold AlS at hj; omega) e57, ys2 j (by unfold AlS at hj; omega) e57]
            exact hR'.2.2.1 j hj
        · rw [wl1, wl2]; exact hK.2
        · rw [s28, t28]; exact ⟨c1, d1, rfl, c3, rfl, d3, k5, bc, bd⟩
      · exact IT_c ((mPu_s (by decide)).trans (ys1 72 (by decide) (by decide))) ((mPu_o (by decide)).trans (congrFun (WkO_a y3) 34)) ((mPu_o (by decide)).trans (congrFun (WkO_a y3) 35)) ((mPu_o (by decide)).trans s28) j1
      · exact IT_c ((mPu_s (by decide)).trans (ys2 72 (by decide) (by decide))) ((mPu_o (by decide)).trans (congrFun (WkO_a y4) 34)) ((mPu_o (by decide)).trans (congrFun (WkO_a y4) 35)) ((mPu_o (by decide)).trans t28) j2
      · rw [mPu_s (by decide)]; exact zr1
      · rw [mPu_s (by decide)]; exact zr2
      · rw [mPu_s (by decide)]; exact y57
      · rw [s28]; omega
      · rw [t28, (EVb_sz k5).1]; omega
      · rw [mPu_o (by decide), congrFun (WkO_a y3) 2, f1.2.2.1]; exact hT
      · rw [mPu_o (by decide), mPu_o (by decide), congrFun (WkO_a y3) 2, congrFun (WkO_a y4) 2, f1.2.2.1, f2.2.2.1]; exact hT2
      · rw [mPu_s (by decide), ys1 95 (by decide) (by decide)]; exact ha
    · have zr1 : ¬ z1.2.1 56 = 0 := fun y => le ((WkO_er er y3).mp y)
      have zr2 : ¬ z2.2.1 56 = 0 := fun y => le ((WkO_er er2 y4).mp y)
      have sz := szN_b a1.1 c3
      refine Or.inr ⟨EZ_st n1 z59 (by omega) (by omega) (by omega) zr1 (WkO_E y3 a4) ⟨_, WkO_57 y3, by omega⟩ (by rw [ys1 95 (by decide) (by decide)]; exact ha) ⟨c1, rfl, c3⟩, EZ_st n2 w59 (by omega) (by omega) (by omega) zr2 (WkO_E y4 b4) ⟨_, WkO_57 y4, by omega⟩ (by rw [ys2 95 (by decide) (by decide)]; exact ha') ⟨d1, rfl, d3⟩⟩
  · have er2 : ¬ r2.2.1 56 = 0 := fun z => er (hK.1.1.mpr z)
    have an : ∀ (r : Int32 × MS), ¬ r.2.1 56 = 0 → Tm (fun k => x_answer k 0 (upd (fun _ => 0) 1 r.1) r.2) (fun s => s = r) := fun r he => by
      refine Tm_suc (fun k => by rw [x_answer]) ?_
      refine Tm_ite (fun z => absurd z he) (fun _ => ?_)
      refine Tm_suc (fun k => by rw [x_answer]) ?_
      exact Tm_some rfl
    refine T2_ob (T2_t (an r1 er) (an r2 er2)) (fun z1 z2 hz => ?_)
    rw [hz.1, hz.2]
    refine hQ _ _ (FE_tr f1 FE_pile) (FE_tr f2 FE_pile) (PK_tr (PK_mo (by omega) (PK_eo a2)) (PK_pi (Nat.le_refl _))) (Or.inr ⟨EZ_st a1 a8 a9 (by omega) (by omega) er a4 ⟨_, a5, by omega⟩ ha ⟨c1, c2, c3⟩, EZ_st b1 b8 b9 (by omega) (by omega) er2 b4 ⟨_, b5, by omega⟩ ha' ⟨d1, d2, d3⟩⟩)
end ANS
