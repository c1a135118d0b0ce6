/-! Statements on both sides (reference): a step of a for's iterator. -/
/-- behind stepFor: nothing is left; or a step; or an error -/
def SFq (t w XC q : Nat) (σ1 σ2 : MS) (r1 r2 : Int32 × MS) : Prop := r1.1 = r2.1 ∧ FCt (fun i => i = 8414 + q) σ1 r1.2 ∧ FCt (fun i => i = 8414 + q) σ2 r2.2 ∧ UT r1.2 ∧ UT r2.2 ∧ ((r1.1 = 0 ∧ r1.2 = σ1 ∧ r2.2 = σ2) ∨ (r1.1 = 1 ∧ ∃ w', w + 1 ≤ w' ∧ EI t w' XC r1.2 r2.2 ∧ ItS r1.2 (q + 1)) ∨ (r1.1 = 0 ∧ EZ t t r1.2 ∧ EZ t t r2.2))
section SFO
variable {T : Nat → Nat → Int32} {FN : Nat → Nat → Prop} {lc cn : Nat → Prop} {t w XC q : Nat} {σ1 σ2 : MS}
theorem E_stepFor {g1 g2 : Nat → Prop} {l1 l2 : List Nat} {B1 h1 X1 B2 h2 X2 n qn : Nat} (hXC : XC ≤ 402000) (ht : t ≤ 176000) (hS : Sc1 T FN lc cn σ1) (hX : EIx t w XC σ1 σ2 g1 l1 B1 h1 X1 g2 l2 B2 h2 X2) (hr : h1 + (XC - 400000) + 15 ≤ B1 + 870000 ∧ h2 + (XC - 400000) + 15 ≤ B2 + 870000) (U1 : UT σ1) (U2 : UT σ2) (hq : q < 3100) (h3 : σ1.2.2 30 3 = nI (q + 1)) (hIt : ItS σ1 (q + 1)) (hn : (1 ≤ n ∧ n < LNo T % 70001)) (hqn : 1 ≤ qn ∧ qn ≤ 60) (hN : NmL T lc cn qn (T 6 n)) {L1 L2 : Nat → Int32} (d1 : L1 1 = nI n) (d2 : L2 1 = nI n) : T2 (fun k => x_stepFor k 0 L1 σ1) (fun k => x_stepFor k 0 L2 σ2) (SFq t w XC q σ1 σ2) := by
  have hI : EI t w XC σ1 σ2 := ⟨g1, l1, B1, h1, X1, g2, l2, B2, h2, X2, hX⟩
  have hX0 := hX
  obtain ⟨m1, m2, hR, i1, i2, t1, e1, e2, w1, hw, x1, x2, ⟨ty1, ty2⟩, a95, a1, a2⟩ := hX
  have al : ∀ j, AlS j → σ2.1 j = σ1.1 j := fun j h => (hR.2.2.1 j h).symm
  have a30 : ∀ j, ¬ Zn 30 j → ¬ InA σ1 30 j → σ2.2.2 30 j = σ1.2.2 30 j := fun j h hn => (hR.2.1 30 j (by unfold AlR; omega) h hn).symm
  have t2 : σ2.1 59 = nI t := (al 59 (by unfold AlS; omega)).trans t1
  have w2 : σ2.1 57 = nI w := (al 57 (by unfold AlS; omega)).trans w1
  have a3 : σ2.1 95 = nI a95 := (al 95 (by unfold AlS; omega)).trans a1
  have rt1 : RtP t σ1 30 (5314 + q) := Or.inr (Or.inl ⟨rfl, by unfold StI; rw [show (0 + 3) = 3 from rfl, h3, n_cl (p := q + 1) (by omega)]; omega⟩)
  obtain ⟨v1, v2, y1, vg1, y2, vg2, ev, bv1, bv2⟩ := hR.1 30 (5314 + q) rt1 (by unfold VwR; omega)
  obtain ⟨kd1, p1, k2, ln1, hp1, s1, kp1⟩ := hIt q (by omega)
  have kd1 : 4 ≤ kdN (σ1.2.2 28) v1 := by
    have : (szV σ1 30 (5314 + q)).2.1 = kdN (σ1.2.2 28) (σ1.2.2 30 (5314 + q)).toNatClampNeg := rfl
    rw [this, y1, n_cl (p := v1) (by omega)] at kd1; exact kd1
  have gv1 := kdN_ge m1.1 vg1 (by omega)
  have v3 : ¬ v1 < 3 := by
    obtain ⟨_, _, _, _, _, z, _⟩ := HS_at m1.1 gv1
    omega
  have ln1 : σ1.2.2 28 (v1 + 1) = nI p1 := by
    have : (szV σ1 30 (5314 + q)).2.2 = if (σ1.2.2 30 (5314 + q)).toNatClampNeg < 3 then 0 else σ1.2.2 28 ((σ1.2.2 30 (5314 + q)).toNatClampNeg + 1) := rfl
    rw [this, y1, n_cl (p := v1) (by omega), if_neg v3] at ln1; exact ln1
  have s2 : σ2.2.2 30 (8414 + q) = nI k2 := (a30 _ (by unfold Zn; omega) (InA_it h3 (by omega) (by omega))).trans s1
  have k3 : σ2.2.2 30 3 = nI (q + 1) := (a30 _ (by unfold Zn; omega) (InA_4 (by omega))).trans h3
  obtain ⟨kk, p, hO⟩ := OE_of m1.1 m2.1 gv1 vg2 ev
  have hO0 := hO
  obtain ⟨_, gv2, o3, o4, o5, o6, o7, o8, o9, o10, o11, o12, o13, o14, o15, o16, o17⟩ := hO
  have ep1 : p1 = p := (n_eq (by omega) (by omega)).mp (ln1.symm.trans o11)
  subst ep1
  have kd2 : 4 ≤ kdN (σ2.2.2 28) v2 := by rw [(EVb_sz ev).2.2]; exact kd1
  have tt : nI (q + 1) - 1 = nI q := n_sub1 (by omega)
  have e53 : (5314 : Int32) + nI q = nI (5314 + q) := n_add (p := 5314) (by omega)
  have e84 : (8414 : Int32) + nI q = nI (8414 + q) := n_add (p := 8414) (by omega)
  have fc : ∀ (σ : MS) (x : Int32), FCt (fun i => i = 8414 + q) σ (mAr σ 30 (8414 + q) x) := fun σ x => FC_w rfl
  -- the end
  have fin : ∀ (υ1 υ2 : MS), FCt (fun i => i = 8414 + q) σ1 υ1 → FCt (fun i => i = 8414 + q) σ2 υ2 → υ1.2.2 30 3 = nI (q + 1) → ItS υ1 (q + 1) → ∀ r1 r2, NWq t (w + 1) XC υ1 υ2 r1 r2 → SFq t w XC q σ1 σ2 r1 r2 := by
    intro υ1 υ2 f1 f2 u3 it r1 r2 hr
    obtain ⟨c1, c2, c3, c4, c5, c6⟩ := hr
    refine ⟨c1, FC_tr f1 (FC_fs c2), FC_tr f2 (FC_fs c3), c4, c5, Or.inr ?_⟩
    rcases c6 with ⟨z1, w', z2, z3⟩ | z
    · exact Or.inl ⟨z1, w', z2, z3, ItS_fs c2 u3 (by omega) (Nat.le_refl _) it⟩
    · exact Or.inr z
  refine T2_suc (fun k => by rw [x_stepFor]) (fun k => by rw [x_stepFor]) ?_
  refine T2_chk (by decide) (by decide) ?_
  rw [show (3 : Int32).toNatClampNeg = 3 from by decide, h3, k3, tt, e53, e84]
  refine T2_chk (n_in (by omega) (by omega)) (n_in (by omega) (by omega)) ?_
  refine T2_chk (n_in (by omega) (by omega)) (n_in (by omega) (by omega)) ?_
  rw [n_cl (p := 5314 + q) (by omega), n_cl (p := 8414 + q) (by omega), y1, y2, s1, s2, n_add1, n_add1]
  refine T2_chk (n_in (by omega) (by omega)) (n_in (by omega) (by omega)) ?_
  rw [n_cl (p := v1 + 1) (by omega), n_cl (p := v2 + 1) (by omega), o11, o12]
  refine T2_ite Iff.rfl (fun _ _ => T2_some ⟨rfl, FC_rf, FC_rf, U1, U2, Or.inl ⟨rfl, rfl, rfl⟩⟩) (fun z _ => ?_)
  have hkp : k2 < p1 := by
    by_cases e : k2 = p1
    · exact absurd (by rw [e]) z
    · omega
  have b1 : ∀ (N1 N2 : Nat → Int32), N1 1 = nI n → N2 1 = nI n → N1 2 = nI q → N2 2 = nI q → N1 3 = nI v1 → N2 3 = nI v2 → N1 4 = nI k2 → N2 4 = nI k2 → T2 (fun k => x_stepFor k 1 N1 σ1) (fun k => x_stepFor k 1 N2 σ2) (SFq t w XC q σ1 σ2) := by
    intro N1 N2 n1 o1 n2 o2' n3 o3' n4 o4'
    refine T2_suc (fun k => by rw [x_stepFor]) (fun k => by rw [x_stepFor]) ?_
    rw [n2, o2', e84]
    refine T2_chk (n_in (by omega) (by omega)) (n_in (by omega) (by omega)) ?_
    rw [n_cl (p := 8414 + q) (by omega), n4, o4', n_add1]
    show T2 (fun k => x_stepFor k 2 N1 (mAr σ1 30 (8414 + q) (nI (k2 + 1)))) (fun k => x_stepFor k 2 N2 (mAr σ2 30 (8414 + q) (nI (k2 + 1)))) _
    have bq : StB (σ1.2.2 30) 0 ∧ StB (σ2.2.2 30) 0 := by
      obtain ⟨_, _, _, _, _, _, s, _⟩ := m1.2.1
      obtain ⟨_, _, _, _, _, _, s', _⟩ := m2.2.1
      exact ⟨s, s'⟩
    have hXr := EIx_c30 (i := 8414 + q) (x := nI (k2 + 1)) (by unfold Zn; omega) hX0
    have V1 := UT_c30 (i := 8414 + q) (x := nI (k2 + 1)) (by unfold Zn; omega) bq.1 U1
    have V2 := UT_c30 (i := 8414 + q) (x := nI (k2 + 1)) (by unfold Zn; omega) bq.2 U2
    have G1 := fc σ1 (nI (k2 + 1))
    have G2 := fc σ2 (nI (k2 + 1))
    have oo : ∀ (σ : MS) j, j ≠ 8414 + q → (mAr σ 30 (8414 + q) (nI (k2 + 1))).2.2 30 j = σ.2.2 30 j := fun σ j hj => by rw [mAr_s, upd_other hj]
    have ss : (mAr σ1 30 (8414 + q) (nI (k2 + 1))).2.2 30 (8414 + q) = nI (k2 + 1) := by rw [mAr_s, upd_same]
    have r1 : ∀ a, a ≠ 30 → (mAr σ1 30 (8414 + q) (nI (k2 + 1))).2.2 a = σ1.2.2 a := fun a h => mAr_o h
    have r2 : ∀ a, a ≠ 30 → (mAr σ2 30 (8414 + q) (nI (k2 + 1))).2.2 a = σ2.2.2 a := fun a h => mAr_o h
    have p5 : (mAr σ1 30 (8414 + q) (nI (k2 + 1))).2.2 30 (5314 + q) = nI v1 := by rw [oo _ _ (by omega)]; exact y1
    have p5' : (mAr σ2 30 (8414 + q) (nI (k2 + 1))).2.2 30 (5314 + q) = nI v2 := by rw [oo _ _ (by omega)]; exact y2
    have p3 : (mAr σ1 30 (8414 + q) (nI (k2 + 1))).2.2 30 3 = nI (q + 1) := by rw [oo _ _ (by omega)]; exact h3
    have it : ItS (mAr σ1 30 (8414 + q) (nI (k2 + 1))) (q + 1) := by
      intro i hi
      have := hIt i hi
      unfold szV at this ⊢
      rw [r1 28 (by decide), oo σ1 (5314 + i) (by omega)]
      by_cases e : i = q
      · subst e
        refine ⟨this.1, p1, k2 + 1, ?_, hp1, ss, by omega⟩
        obtain ⟨_, p', _, z1, _⟩ := this
        show (if (σ1.2.2 30 (5314 + i)).toNatClampNeg < 3 then 0 else σ1.2.2 28 ((σ1.2.2 30 (5314 + i)).toNatClampNeg + 1)) = nI p1
        rw [y1, n_cl (p := v1) (by omega), if_neg v3]; exact o11
      · rw [oo σ1 (8414 + i) (by omega)]; exact this
    have hSr := Sc1_fc hS G1 (fun i hi => by unfold Ict; omega)
    have w1' : (mAr σ1 30 (8414 + q) (nI (k2 + 1))).1 57 = nI w := w1
    have w2' : (mAr σ2 30 (8414 + q) (nI (k2 + 1))).1 57 = nI w := w2
    have c59 : (mAr σ2 30 (8414 + q) (nI (k2 + 1))).1 59 = nI t := t2
    have c95 : (mAr σ2 30 (8414 + q) (nI (k2 + 1))).1 95 = nI a95 := a3
    generalize mAr σ1 30 (8414 + q) (nI (k2 + 1)) = ρ1 at *
    generalize mAr σ2 30 (8414 + q) (nI (k2 + 1)) = ρ2 at *
    obtain ⟨M1, M2, R1, I1, I2, T1, E1, E2, W1, HW, XX1, XX2, TY, b95, bb1, bb2⟩ := id hXr
    refine T2_suc (fun k => by rw [x_stepFor]) (fun k => by rw [x_stepFor]) ?_
    refine T2_ob (T2_t (s_worked w1' (n := 1) (by omega) rfl) (s_worked w2' (n := 1) (by omega) rfl)) (fun r1' r2' hr' => ?_)
    obtain ⟨⟨_, Wk1⟩, _, Wk2⟩ := hr'
    have z1 := WkO_er E1 Wk1
    have z2 := WkO_er E2 Wk2
    by_cases le : w + 1 ≤ 60000
    case neg =>
      have q1 : r1'.2 = mEr (mSc ρ1 57 (nI (w + 1))) (nI 11) := by
        rcases Wk1 with y | y
        · exact absurd y.1 le
        · exact y.2
      have q2 : r2'.2 = mEr (mSc ρ2 57 (nI (w + 1))) (nI 11) := by
        rcases Wk2 with y | y
        · exact absurd y.1 le
        · exact y.2
      have Z1 : EZ t t r1'.2 := by
        rw [q1]
        exact EZ_er (w := w + 1) (MI_c M1 rfl rfl rfl rfl rfl) (by omega) (by exact T1) E1 rfl (by omega) ⟨b95, bb1, bb2⟩ (by decide) (by decide) (Nat.le_refl _) (Nat.le_refl _)
      have Z2 : EZ t t r2'.2 := by
        rw [q2]
        exact EZ_er (w := w + 1) (MI_c M2 rfl rfl rfl rfl rfl) (by omega) (by exact c59) E2 rfl (by omega) ⟨a95, c95, a2⟩ (by decide) (by decide) (Nat.le_refl _) (Nat.le_refl _)
      have F1 : FE ρ1 r1'.2 := FE_wk Wk1
      have F2 : FE ρ2 r2'.2 := FE_wk Wk2
      refine T2_ite ⟨fun z => absurd z (EZ_le Z1), fun z => absurd z (EZ_le Z2)⟩ (fun z _ => absurd z (EZ_le Z1)) (fun _ _ => ?_)
      exact T2_some ⟨rfl, FC_tr G1 (FC_fe F1), FC_tr G2 (FC_fe F2), UT_fe F1 V1, UT_fe F2 V2, Or.inr (Or.inr ⟨rfl, Z1, Z2⟩)⟩
    have q1 : r1'.2 = mSc ρ1 57 (nI (w + 1)) := by
      rcases Wk1 with y | y
      · exact y.2
      · omega
    have q2 : r2'.2 = mSc ρ2 57 (nI (w + 1)) := by
      rcases Wk2 with y | y
      · exact y.2
      · omega
    have F1 : FE ρ1 (mSc ρ1 57 (nI (w + 1))) := FE_sc (Or.inr (Or.inl rfl))
    have F2 : FE ρ2 (mSc ρ2 57 (nI (w + 1))) := FE_sc (Or.inr (Or.inl rfl))
    have hX2 : EIx t (w + 1) XC (mSc ρ1 57 (nI (w + 1))) (mSc ρ2 57 (nI (w + 1))) g1 l1 B1 h1 X1 g2 l2 B2 h2 X2 := by
      refine ⟨MI_c M1 rfl rfl rfl rfl rfl, MI_c M2 rfl rfl rfl rfl rfl, RA_c R1 rfl rfl rfl rfl rfl rfl rfl rfl (fun j hj => ?_) R1.2.2.2, IT_c rfl rfl rfl rfl I1, IT_c rfl rfl rfl rfl I2, T1, E1, E2, rfl, ⟨le, HW.2⟩, by omega, by omega, TY, b95, bb1, bb2⟩
      show upd ρ1.1 57 (nI (w + 1)) j = upd ρ2.1 57 (nI (w + 1)) j
      by_cases c : j = 57
      · rw [c, upd_same, upd_same]
      · rw [upd_other c, upd_other c]; exact R1.2.2.1 j hj
    rw [q1, q2]
    have c28 : (mSc ρ1 57 (nI (w + 1))).2.2 28 = σ1.2.2 28 := r1 28 (by decide)
    have d28 : (mSc ρ2 57 (nI (w + 1))).2.2 28 = σ2.2.2 28 := r2 28 (by decide)
    have u5 : (mSc ρ1 57 (nI (w + 1))).2.2 30 (5314 + q) = nI v1 := p5
    have u5' : (mSc ρ2 57 (nI (w + 1))).2.2 30 (5314 + q) = nI v2 := p5'
    have u3 : (mSc ρ1 57 (nI (w + 1))).2.2 30 3 = nI (q + 1) := p3
    have itu := ItS_fs (FS_fe F1) p3 (by omega) (Nat.le_refl _) it
    have hSu := Sc1_fs hSr (FS_fe F1)
    have Y1 := UT_fe F1 V1
    have Y2 := UT_fe F2 V2
    have C1 : FCt (fun i => i = 8414 + q) σ1 (mSc ρ1 57 (nI (w + 1))) := FC_tr G1 (FC_fe F1)
    have C2 : FCt (fun i => i = 8414 + q) σ2 (mSc ρ2 57 (nI (w + 1))) := FC_tr G2 (FC_fe F2)
    have ee1 : (mSc ρ1 57 (nI (w + 1))).1 56 = 0 := E1
    have ee2 : (mSc ρ2 57 (nI (w + 1))).1 56 = 0 := E2
    generalize mSc ρ1 57 (nI (w + 1)) = υ1 at *
    generalize mSc ρ2 57 (nI (w + 1)) = υ2 at *
    have hIu : EI t (w + 1) XC υ1 υ2 := ⟨g1, l1, B1, h1, X1, g2, l2, B2, h2, X2, hX2⟩
    have hS2u := Sc1_ei hSu hIu
    rw [ee1, ee2]
    refine T2_ite Iff.rfl (fun _ _ => ?_) (fun z _ => absurd (by decide) z)
    refine T2_suc (fun k => by rw [x_stepFor]) (fun k => by rw [x_stepFor]) ?_
    rw [n3, o3', n4, o4', n1, o1]
    -- error 1
    have nine : ∀ (M1 M2 : Nat → Int32) (π1 π2 : MS), FSt υ1 π1 → FSt υ2 π2 → UT π1 → UT π2 → EI t (w + 1) XC π1 π2 → T2 (fun k => x_stepFor k 9 M1 π1) (fun k => x_stepFor k 9 M2 π2) (NWq t (w + 1) XC υ1 υ2) := by
      intro M1 M2 π1 π2 f1 f2 W1 W2 hJ
      refine T2_suc (fun k => by rw [x_stepFor]) (fun k => by rw [x_stepFor]) ?_
      refine T2_ob (T2_t (s_fail _ _) (s_fail _ _)) (fun r1 r2 hr => ?_)
      rw [hr.1, hr.2]
      obtain ⟨z1, z2⟩ := E_er (a := t) (b := t) (e := 1) (by omega) hJ (by decide) (by decide) (Nat.le_refl _) (Nat.le_refl _)
      exact T2_some ⟨rfl, FS_tr f1 (FS_fe FE_er), FS_tr f2 (FS_fe FE_er), UT_fe FE_er W1, UT_fe FE_er W2, Or.inr ⟨rfl, z1, z2⟩⟩
    -- behind a single write
    have single : ∀ (s1 s2 : Int32 × MS) (π1 π2 : MS) (M1 M2 K1 K2 : Nat → Int32), FSt υ1 π1 → FSt υ2 π2 → SQ t t (w + 1) XC π1 π2 s1.2 s2.2 → T2 (fun k => if s1.2.1 56 = 0 then x_stepFor k 5 (upd M1 100 1) s1.2 else x_stepFor k 4 K1 s1.2) (fun k => if s2.2.1 56 = 0 then x_stepFor k 5 (upd M2 100 1) s2.2 else x_stepFor k 4 K2 s2.2) (NWq t (w + 1) XC υ1 υ2) := by
      intro s1 s2 π1 π2 M1 M2 K1 K2 f1 f2 hs
      obtain ⟨c1, c2, c3, c4, c5⟩ := hs
      rcases c5 with ⟨w', hw', hJ⟩ | ⟨z1, z2⟩
      · obtain ⟨e1, e2⟩ := EI_e hJ
        rw [e1, e2]
        refine T2_ite Iff.rfl (fun _ _ => ?_) (fun z _ => absurd rfl z)
        refine T2_suc (fun k => by rw [x_stepFor]) (fun k => by rw [x_stepFor]) ?_
        exact T2_chk (Or.inr rfl) (Or.inr rfl) (T2_some ⟨rfl, FS_tr f1 c1, FS_tr f2 c2, c3, c4, Or.inl ⟨rfl, w', hw', hJ⟩⟩)
      · refine T2_ite ⟨fun z => absurd z (EZ_e z1), fun z => absurd z (EZ_e z2)⟩ (fun z _ => absurd z (EZ_e z1)) (fun _ _ => ?_)
        refine T2_suc (fun k => by rw [x_stepFor]) (fun k => by rw [x_stepFor]) ?_
        refine T2_suc (fun k => by rw [x_stepFor]) (fun k => by rw [x_stepFor]) ?_
        exact T2_chk (Or.inl rfl) (Or.inl rfl) (T2_some ⟨rfl, FS_tr f1 c1, FS_tr f2 c2, c3, c4, Or.inr ⟨rfl, z1, z2⟩⟩)
    obtain ⟨qm, rfl⟩ : ∃ qm, qn = qm + 1 := ⟨qn - 1, by omega⟩
    have hN0 := hN
    obtain ⟨na, ns, xna, hna, hNr⟩ := hN
    -- names are counted
    have six : ∀ (π1 π2 : MS) (M1 M2 : Nat → Int32) (va vb : Nat), Sc1 T FN lc cn π1 → Sc1 T FN lc cn π2 → M1 1 = nI n → M2 1 = nI n → M1 5 = nI va → M2 5 = nI vb → (∀ K1 K2 : Nat → Int32, K1 1 = nI n → K2 1 = nI n → K1 5 = nI va → K2 5 = nI vb → K1 6 = nI (qm + 1) → K2 6 = nI (qm + 1) → T2 (fun k => x_stepFor k 8 K1 π1) (fun k => x_stepFor k 8 K2 π2) (NWq t (w + 1) XC υ1 υ2)) → T2 (fun k => x_stepFor k 6 M1 π1) (fun k => x_stepFor k 6 M2 π2) (NWq t (w + 1) XC υ1 υ2) := by
      intro π1 π2 M1 M2 va vb S1 S2 c1 c2 c5 c5' hQ
      have cnt : ∀ (q j : Nat) (x : Int32) (K1 K2 : Nat → Int32), q + j = qm + 1 → NmL T lc cn q x → K1 1 = nI n → K2 1 = nI n → K1 5 = nI va → K2 5 = nI vb → K1 6 = nI j → K2 6 = nI j → K1 7 = x → K2 7 = x → T2 (fun k => x_stepFor k 7 K1 π1) (fun k => x_stepFor k 7 K2 π2) (NWq t (w + 1) XC υ1 υ2) := by
        intro q
        induction q with
        | zero =>
          intro j x K1 K2 hj hL b1 b2 b3 b4 b5 b6 b7 b8
          have hL : x = -1 := hL
          refine T2_suc (fun k => by rw [x_stepFor]) (fun k => by rw [x_stepFor]) ?_
          rw [b7, b8, hL]
          refine T2_ite Iff.rfl (fun _ _ => ?_) (fun z _ => absurd rfl z)
          exact hQ K1 K2 b1 b2 b3 b4 (by rw [b5]; congr 1; omega) (by rw [b6]; congr 1; omega)
        | succ q ih =>
          intro j x K1 K2 hj hL b1 b2 b3 b4 b5 b6 b7 b8
          obtain ⟨a, s, xa, hn', hL⟩ := hL
          have ha := hn'.1
          refine T2_suc (fun k => by rw [x_stepFor]) (fun k => by rw [x_stepFor]) ?_
          rw [b7, b8, b5, b6, xa]
          refine T2_ite Iff.rfl (fun z _ => absurd z (ne_m1 ha)) (fun _ _ => ?_)
          refine T2_chk (n_in (by omega) (by omega)) (n_in (by omega) (by omega)) ?_
          rw [n_cl (p := a) (by omega), S1.1.1.1 9 _ (by omega) (by omega) (by omega), S2.1.1.1 9 _ (by omega) (by omega) (by omega), n_add1]
          exact ih (j + 1) (T 9 a) _ _ (by omega) hL b1 b2 b3 b4 rfl rfl rfl rfl
      refine T2_suc (fun k => by rw [x_stepFor]) (fun k => by rw [x_stepFor]) ?_
      rw [c1, c2]
      refine T2_chk (n_in (by omega) (by omega)) (n_in (by omega) (by omega)) ?_
      rw [n_cl (p := n) (by omega), S1.1.1.1 6 _ (by omega) (by omega) (by omega), S2.1.1.1 6 _ (by omega) (by omega) (by omega)]
      exact cnt (qm + 1) 0 (T 6 n) _ _ (by omega) hN0 c1 c2 c5 c5' rfl rfl rfl rfl
    by_cases k5 : 5 ≤ kk
    · refine T2_ob (T2_t (s_memY (σ := υ1) (n := p1) (kk := kk) (j := k2) o13 (by rw [c28]; exact o9) k5 o5.2 hkp rfl rfl) (s_memY (σ := υ2) (n := p1) (kk := kk) (j := k2) o14 (by rw [d28]; exact o10) k5 o5.2 hkp rfl rfl)) (fun a b hab => ?_)
      rw [hab.1, hab.2]
      have rtu : RtP t υ1 30 (5314 + q) := Or.inr (Or.inl ⟨rfl, by unfold StI; rw [show (0 + 3) = 3 from rfl, u3, n_cl (p := q + 1) (by omega)]; omega⟩)
      have kdu : 5 ≤ kdN (υ1.2.2 28) v1 := by rw [c28, o7]; exact k5
      have lnu : υ1.2.2 28 (v1 + 1) = nI p1 := by rw [c28]; exact ln1
      obtain ⟨va, vb, xa1, xa2, xa3, xa4, xa5, xa6, xa7, xa8, xa9⟩ := Rt_val hX2 rtu (by unfold VwR; omega) u5 u5' bv1 bv2 kdu lnu hp1 hkp
      have bva := HS_vb hX2.1.1 xa3
      have bvb := HS_vb hX2.2.1.1 xa4
      refine T2_chk (n_in (by omega) (by omega)) (n_in (by omega) (by omega)) ?_
      rw [n_cl (p := n) (by omega), hSu.1.1.1 5 _ (by omega) (by omega) (by omega), hS2u.1.1.1 5 _ (by omega) (by omega) (by omega)]
      refine T2_ite Iff.rfl (fun _ _ => ?_) (fun _ _ => ?_)
      · refine T2_chk (n_in3 (by omega) (by omega)) (n_in3 (by omega) (by omega)) ?_
        rw [hSu.1.1.1 6 _ (by omega) (by omega) (by omega), hS2u.1.1.1 6 _ (by omega) (by omega) (by omega), xna]
        refine T2_ob (E_assX (x := υ1.2.2 28 (v1 + 4 + k2)) (y := υ2.2.2 28 (v2 + 4 + k2)) hXC hSu hIu Y1 Y2 hna (fun g1 l1 B1 h1 X1 g2 l2 B2 h2 X2 hE => ?_) rfl rfl rfl rfl) (fun s1 s2 hs => T2_mono (single s1 s2 υ1 υ2 _ _ _ _ FS_rf FS_rf hs.1) (fin υ1 υ2 C1 C2 u3 itu))
        obtain ⟨a', b', e1', e2', _, _, _, e6', e7', e8', _⟩ := Rt_val hE rtu (by unfold VwR; omega) u5 u5' bv1 bv2 kdu lnu hp1 hkp
        rw [e1', e2']
        exact ⟨e6', ⟨a', rfl, e7'⟩, ⟨b', rfl, e8'⟩⟩
      · rw [xa1, xa2]
        refine T2_mono (six υ1 υ2 _ _ va vb hSu hS2u n1 o1 rfl rfl (fun K1 K2 b1 b2 b3 b4 b5 b6 => ?_)) (fin υ1 υ2 C1 C2 u3 itu)
        refine T2_suc (fun k => by rw [x_stepFor]) (fun k => by rw [x_stepFor]) ?_
        rw [b3, b4, b5, b6]
        refine T2_ob (T2_t (s_kind hX2.1.1 xa3 rfl) (s_kind hX2.2.1.1 xa4 rfl)) (fun c d hcd => ?_)
        rw [hcd.1, hcd.2, (EVb_sz xa5).2.2]
        have k6 := kdN_6 hX2.1.1 xa3
        refine T2_ite Iff.rfl (fun z _ => ?_) (fun _ _ => nine _ _ υ1 υ2 FS_rf FS_rf Y1 Y2 hIu)
        have z5 : kdN (υ1.2.2 28) va = 5 := (n_eq (q := 5) (by omega) (by decide)).mp z
        obtain ⟨qa, qa1, qa2, qa3, qa4, qa5, _⟩ := xa9 z5
        rw [n_add1, n_add1]
        refine T2_chk (n_in (by omega) (by omega)) (n_in (by omega) (by omega)) ?_
        rw [n_cl (p := va + 1) (by omega), n_cl (p := vb + 1) (by omega)]
        show T2 (fun k => if υ1.2.2 28 (va + 1) ≤ nI (qm + 1) then x_stepFor k 10 K1 υ1 else x_stepFor k 9 K1 υ1) (fun k => if υ2.2.2 28 (vb + 1) ≤ nI (qm + 1) then x_stepFor k 10 K2 υ2 else x_stepFor k 9 K2 υ2) _
        rw [qa1, qa2]
        refine T2_ite Iff.rfl (fun _ _ => ?_) (fun _ _ => nine _ _ υ1 υ2 FS_rf FS_rf Y1 Y2 hIu)
        refine T2_suc (fun k => by rw [x_stepFor]) (fun k => by rw [x_stepFor]) ?_
        rw [b1, b2]
        refine T2_chk (n_in (by omega) (by omega)) (n_in (by omega) (by omega)) ?_
        rw [n_cl (p := n) (by omega), hSu.1.1.1 6 _ (by omega) (by omega) (by omega), hS2u.1.1.1 6 _ (by omega) (by omega) (by omega)]
        exact sf_11 (i0 := 5314 + q) (k := k2) (p := p1) (a := va) (b := vb) (qa := qa) (v1 := v1) (v2 := v2) hXC (by omega) bv1 bv2 ⟨qa4, qa5, qa3⟩ hp1 hkp (qm + 1) 0 (T 6 n) _ _ υ1 υ2 (w + 1) (Nat.le_refl _) (by omega) hN0 b3 b4 rfl rfl rfl rfl hSu FS_rf FS_rf Y1 Y2 hIu rtu u5 u5' kdu lnu xa1 xa2 z5 qa1 qa2
    · have k4 : kk = 4 := by omega
      subst k4
      have q59 : υ1.1 59 = nI t := hX2.2.2.2.2.2.1
      have u59 : υ2.1 59 = nI t := (hX2.2.2.1.2.2.1 59 (by unfold AlS; omega)).symm.trans q59
      have P1 : VP g1 l1 B1 h1 t υ1 := ⟨hX2.1.1, q59, by omega, ⟨0, ee1, by decide⟩⟩
      have P2 : VP g2 l2 B2 h2 t υ2 := ⟨hX2.2.1.1, u59, by omega, ⟨0, ee2, by decide⟩⟩
      have hO2 : OE g1 g2 (υ1.2.2 28) (υ2.2.2 28) v1 v2 4 p1 := by rw [c28, d28]; exact hO0
      refine T2_ob (T2_of (Tm_and (s_memberAt (v := v1) (n := p1) (i := k2) P1 gv1 (by rw [c28]; exact kd1) (by rw [c28]; exact ln1) hkp o6 rfl rfl) (s_memX (v := v1) (n := p1) (j := k2) hX2.1.1 (by omega) ee1 o13 (by rw [c28]; exact o9) hkp rfl rfl)) (Tm_and (s_memberAt (v := v2) (n := p1) (i := k2) P2 gv2 (by rw [d28]; exact kd2) (by rw [d28]; exact o12) hkp o6 rfl rfl) (s_memX (v := v2) (n := p1) (j := k2) hX2.2.1.1 (by omega) ee2 o14 (by rw [d28]; exact o10) hkp rfl rfl)) (fun n' => Pm_wl (fun k => wl_memberAt k _ _ _) (fun k => wl_memberAt k _ _ _) (k_memberAt hX2.1.1 hX2.2.1.1 ee1 ee2 (by omega) (by omega) hO2 (by omega) hkp rfl rfl rfl rfl))) (fun u1 u2 hu => ?_)
      obtain ⟨⟨kq, wl1, wl2⟩, ⟨va, xa1, xa2, xa3, xa4⟩, ⟨vb, xb1, xb2, xb3, xb4⟩⟩ := hu
      obtain ⟨gC, lC, hC', gD, lD, hD', p1', p2', p3', p4', p5'', p6', p7', p8', p9', p10'⟩ := KQ_gr (by omega) hX2.1.1 hX2.2.1.1 va vb kq xa2
      obtain ⟨q1', q2', q3'⟩ := RA_gr hX2.1 hX2.2.1 hX2.2.2.1 p1' p2' p3' p4' (p5''.trans p6'.symm) (by rw [wl1, wl2]; exact hX2.2.2.1.2.2.2)
      have eo1 := (MI_gr hX2.1 p1' p3').2
      have eo2 := (MI_gr hX2.2.1 p2' p4').2
      have H1 : FE υ1 u1.2 := FE_eo hX2.1.2.1 eo1
      have H2 : FE υ2 u2.2 := FE_eo hX2.2.1.2.1 eo2
      obtain ⟨_, _, _, i1', i2', _, _, _, w57, hw', x1', x2', ⟨ty1', ty2'⟩, c95', b95', b95''⟩ := id hX2
      have hX3 : EIx t (w + 1) XC u1.2 u2.2 gC lC B1 hC' X1 gD lD B2 hD' X2 := ⟨q1', q2', q3', IT_eo hX2.1.2.1 hX2.1.1 (Or.inr ⟨B1, hC', p1'.1⟩) eo1 i1', IT_eo hX2.2.1.2.1 hX2.2.1.1 (Or.inr ⟨B2, hD', p2'.1⟩) eo2 i2', p5'', xa2, xb2, (p3'.1 57 (by decide)).trans w57, ⟨hw'.1, by omega, by omega⟩, x1', x2', ⟨by rw [H1.2.2.1]; exact ty1', by rw [H1.2.2.1, H2.2.2.1]; exact ty2'⟩, c95', (p3'.1 95 (by decide)).trans b95', b95''⟩
      have hI3 : EI t (w + 1) XC u1.2 u2.2 := ⟨_, _, _, _, _, _, _, _, _, _, hX3⟩
      have bh1 := HS_b m1.1
      have bh2 := HS_b m2.1
      rw [xa1, xb1] at p8'
      have gm1 : gC h1 := by
        obtain ⟨z1, z2, c1, c2, c3, c4, c5, c6, c7⟩ := p8'
        have ea : h1 = z1 := (n_eq (by omega) (by omega)).mp c1
        rw [ea]
        obtain ⟨_, _, _, _, _, hvb1, hvb2⟩ := HS_at m1.1 gv1
        exact c2.resolve_left (by omega)
      have gm2 : gD h2 := by
        obtain ⟨z1, z2, c1, c2, c3, c4, c5, c6, c7⟩ := p8'
        have ea : h2 = z2 := (n_eq (by omega) (by omega)).mp c3
        rw [ea]
        obtain ⟨_, _, _, _, _, hvb1, hvb2⟩ := HS_at m2.1 gv2
        exact c4.resolve_left (by omega)
      have S1' := Sc1_fs hSu (FS_fe H1)
      have S2' := Sc1_fs hS2u (FS_fe H2)
      rw [xa1, xb1]
      refine T2_chk (n_in (by omega) (by omega)) (n_in (by omega) (by omega)) ?_
      rw [n_cl (p := n) (by omega), S1'.1.1.1 5 _ (by omega) (by omega) (by omega), S2'.1.1.1 5 _ (by omega) (by omega) (by omega)]
      refine T2_ite Iff.rfl (fun _ _ => ?_) (fun _ _ => ?_)
      · refine T2_chk (n_in3 (by omega) (by omega)) (n_in3 (by omega) (by omega)) ?_
        rw [S1'.1.1.1 6 _ (by omega) (by omega) (by omega), S2'.1.1.1 6 _ (by omega) (by omega) (by omega), xna]
        exact T2_ob (E_asgL (m1 := h1) (m2 := h2) hXC S1' hX3 (UT_fe H1 Y1) (UT_fe H2 Y2) hna (by omega) (by omega) gm1 gm2 p8' xa3 xb3 xa4 xb4 rfl rfl rfl rfl) (fun s1 s2 hs => T2_mono (single s1 s2 u1.2 u2.2 _ _ _ _ (FS_fe H1) (FS_fe H2) hs) (fin υ1 υ2 C1 C2 u3 itu))
      · refine T2_mono (six u1.2 u2.2 _ _ h1 h2 S1' S2' n1 o1 rfl rfl (fun K1 K2 b1 b2 b3 b4 b5 b6 => ?_)) (fin υ1 υ2 C1 C2 u3 itu)
        refine T2_suc (fun k => by rw [x_stepFor]) (fun k => by rw [x_stepFor]) ?_
        rw [b3, b4, b5, b6]
        refine T2_ob (T2_t (s_kind hX3.1.1 (Or.inr gm1) rfl) (s_kind hX3.2.1.1 (Or.inr gm2) rfl)) (fun c d hcd => ?_)
        have kd : ∀ {g : Nat → Prop} {l : List Nat} {B h m : Nat} {σ : MS}, HS g l B h σ → g m → σ.2.2 28 m = nI 4 → kdN (σ.2.2 28) m = 4 := by
          intro g l B h m σ hS gm e
          obtain ⟨n', v1, v2, v3, v4, v5, v6, v7⟩ := ob_at hS gm
          have k6 := kdN_6 hS (Or.inr gm)
          exact (n_eq (by omega) (by decide)).mp (v5.symm.trans e)
        rw [hcd.1, hcd.2, kd hX3.1.1 gm1 xa3, kd hX3.2.1.1 gm2 xb3]
        exact T2_ite (c1 := nI 4 = 5) (c2 := nI 4 = 5) Iff.rfl (fun z _ => absurd z (by decide)) (fun _ _ => nine _ _ u1.2 u2.2 (FS_fe H1) (FS_fe H2) (UT_fe H1 Y1) (UT_fe H2 Y2) hI3)
  exact b1 _ _ d1 d2 rfl rfl rfl rfl rfl rfl
end SFO
