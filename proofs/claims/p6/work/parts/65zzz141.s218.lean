/-! Evaluation on both sides (reference): an iterator's step. -/
/-- behind a step -/
def StQ (N : Nat → Nat → Prop) (e' t w XC : Nat) (σ1 σ2 : MS) (r1 r2 : Int32 × MS) : Prop := r1.1 = r2.1 ∧ ((r1.1 = 0 ∧ r1.2 = σ1 ∧ r2.2 = σ2) ∨ (FI N e' σ1 r1.2 ∧ FI N e' σ2 r2.2 ∧ r1.2.1 72 = σ1.1 72 ∧ r2.2.1 72 = σ2.1 72 ∧ (∀ i, i < e' + 1 → r1.2.2.2 50 i = σ1.2.2 50 i ∧ r2.2.2.2 50 i = σ2.2.2 50 i) ∧ ((r1.1 = 1 ∧ EI t (w + 1) XC r1.2 r2.2) ∨ (r1.1 = 0 ∧ EZ t t r1.2 ∧ EZ t t r2.2))))
section STE
variable {T : Nat → Nat → Int32} {FN : Nat → Nat → Prop} {O r K d t u w XC : Nat} {lc : Nat → Prop} {σ σ1 σ2 τ τ1 τ2 ρ : MS} {g : Nat → Prop} {l : List Nat} {B h X a i : Nat}
/-- rows that hold no values -/
theorem MI_nr {b : Nat} {x : Int32} (hb : b = 35 ∨ b = 50) (hM : MI t X g l B h σ) : MI t X g l B h (mAr σ b i x) := by
  have o : ∀ a, a ≠ b → (mAr σ b i x).2.2 a = σ.2.2 a := fun a ha => mAr_o ha
  have rc : ∀ c j, RtP t (mAr σ b i x) c j ↔ RtP t σ c j := RtP_c rfl rfl (o 30 (by omega)) (o 31 (by omega))
  refine MI_re hM rfl rfl (o 28 (by omega)) (RtQ_c (σ := σ) rfl rfl (o 30 (by omega)) (o 31 (by omega)) hM.2.1) (fun c j z => ?_)
  have z := (rc c j).mp z
  rw [o c (by unfold RtP at z; omega)]
  exact MI_rt hM z
theorem RA_nr {g1 g2 : Nat → Prop} {b : Nat} {x : Int32} (hb : b = 35 ∨ b = 50) (hR : RA t g1 g2 σ1 σ2) : RA t g1 g2 (mAr σ1 b i x) (mAr σ2 b i x) := by
  have o : ∀ (σ : MS) a, a ≠ b → (mAr σ b i x).2.2 a = σ.2.2 a := fun σ a ha => mAr_o ha
  have rc : ∀ c j, RtP t (mAr σ1 b i x) c j ↔ RtP t σ1 c j := RtP_c rfl rfl (o σ1 30 (by omega)) (o σ1 31 (by omega))
  refine ⟨fun c j z hv => ?_, fun c j hc hz hn => ?_, hR.2.2.1, hR.2.2.2⟩
  · have z := (rc c j).mp z
    rw [o σ1 28 (by omega), o σ2 28 (by omega), o σ1 c (by unfold RtP at z; omega), o σ2 c (by unfold RtP at z; omega)]
    exact hR.1 c j z hv
  · by_cases e : c = b ∧ j = i
    · obtain ⟨e1, e2⟩ := e
      subst e1
      subst e2
      rw [mAr_s, mAr_s, upd_same, upd_same]
    · rw [mAr_v e, mAr_v e]; exact hR.2.1 c j hc hz (fun z => hn ((InA_c (σ := σ1) (ρ := mAr σ1 b i x) rfl rfl rfl rfl rfl rfl (fun u _ => by rw [o σ1 21 (by omega)]) (fun q _ => by rw [o σ1 30 (by omega)]) (fun p _ q _ => by rw [o σ1 31 (by omega)]) c j).mpr z))
theorem IT_35 {e v k p : Nat} (hI : IT g σ) (h72 : σ.1 72 = nI (e + 1)) (he : e < 4000) (y : σ.2.2 34 e = nI v) (gv : g v) (hk : 4 ≤ kdN (σ.2.2 28) v) (hp : σ.2.2 28 (v + 1) = nI p) (hp2 : p ≤ 3996) (hkp : k ≤ p) : IT g (mAr σ 35 e (nI k)) := by
  obtain ⟨e', q1, q2, q3⟩ := hI
  have ee : e' = e + 1 := (n_eq (by omega) (by omega)).mp (q1.symm.trans h72)
  subst ee
  refine ⟨e + 1, q1, q2, fun i hi => ?_⟩
  rw [show (mAr σ 35 e (nI k)).2.2 34 = σ.2.2 34 from mAr_o (by decide), show (mAr σ 35 e (nI k)).2.2 28 = σ.2.2 28 from mAr_o (by decide), mAr_s]
  by_cases c : i = e
  · subst c
    rw [upd_same]
    exact ⟨v, k, p, y, gv, hk, hp, hp2, rfl, hkp⟩
  · rw [upd_other c]
    exact q3 i (by omega)
theorem E_step {N : Nat → Nat → Prop} {g1 g2 : Nat → Prop} {l1 l2 : List Nat} {B1 h1 X1 B2 h2 X2 n q f fu dp e' : Nat} (hXC : XC ≤ 408500) (ht : t ≤ 176000) (hS1 : STb T FN σ1) (hX : EIx t w XC σ1 σ2 g1 l1 B1 h1 X1 g2 l2 B2 h2 X2) (hr : h1 + (XC - 400000) + 15 ≤ B1 + 870000 ∧ h2 + (XC - 400000) + 15 ≤ B2 + 870000) (hC : Cx lc fu dp (e' + 1) σ1) (he : e' < 4000) (hn : (1 ≤ n ∧ n < LNo T % 70001)) (hq : 1 ≤ q ∧ q ≤ 70000) (hW : WN T FN f 6 O q K lc (T 6 n)) (hN : ∀ a i, NmP T σ1 (T 6 n) a i → N a i) {L1 L2 : Nat → Int32} (d1 : L1 1 = nI n) (d2 : L2 1 = nI n) : T2 (fun k => x_stepIter k 0 L1 σ1) (fun k => x_stepIter k 0 L2 σ2) (StQ N e' t w XC σ1 σ2) := by
  have h72 := hC.2.2.2.2.1
  obtain ⟨m1, m2, hR, i1, i2, t1, e1, e2, w1, hw, x1, x2, ⟨ty1, ty2⟩, a95, a1, a2⟩ := hX
  have al : ∀ j, AlS j → σ2.1 j = σ1.1 j := fun j h => (hR.2.2.1 j h).symm
  have g72 : σ2.1 72 = nI (e' + 1) := (al 72 (by unfold AlS; omega)).trans h72
  have t2 : σ2.1 59 = nI t := (al 59 (by unfold AlS; omega)).trans t1
  have w2 : σ2.1 57 = nI w := (al 57 (by unfold AlS; omega)).trans w1
  have a3 : σ2.1 95 = nI a95 := (al 95 (by unfold AlS; omega)).trans a1
  -- where the iterator stands
  obtain ⟨v1, k1, p1, y1, gv1, kd1, ln1, hp1, s1, kp1⟩ : ∃ v k p, σ1.2.2 34 e' = nI v ∧ g1 v ∧ 4 ≤ kdN (σ1.2.2 28) v ∧ σ1.2.2 28 (v + 1) = nI p ∧ p ≤ 3996 ∧ σ1.2.2 35 e' = nI k ∧ k ≤ p := by
    obtain ⟨e, q1, q2, q3⟩ := i1
    have ee : e = e' + 1 := (n_eq (by omega) (by omega)).mp (q1.symm.trans h72)
    exact q3 e' (by omega)
  obtain ⟨v2, k2, p2, y2, gv2, kd2, ln2, hp2, s2, kp2⟩ : ∃ v k p, σ2.2.2 34 e' = nI v ∧ g2 v ∧ 4 ≤ kdN (σ2.2.2 28) v ∧ σ2.2.2 28 (v + 1) = nI p ∧ p ≤ 3996 ∧ σ2.2.2 35 e' = nI k ∧ k ≤ p := by
    obtain ⟨e, q1, q2, q3⟩ := i2
    have ee : e = e' + 1 := (n_eq (by omega) (by omega)).mp (q1.symm.trans g72)
    exact q3 e' (by omega)
  have bv1 := HS_vb m1.1 (Or.inr gv1)
  have bv2 := HS_vb m2.1 (Or.inr gv2)
  have ek : k2 = k1 := by
    have := hR.2.1 35 e' (by unfold AlR; omega) (by unfold Zn; omega) (by unfold InA; rw [h72, n_cl (p := e' + 1) (by omega)]; omega)
    rw [s1, s2] at this
    exact ((n_eq (by omega) (by omega)).mp this).symm
  subst ek
  have rt1 : RtP t σ1 34 e' := by
    unfold RtP
    rw [h72, n_cl (p := e' + 1) (by omega)]
    exact Or.inr (Or.inr (Or.inr (Or.inr (Or.inl ⟨rfl, by omega⟩))))
  have ev : EVb (σ1.2.2 28) (σ2.2.2 28) v1 v2 := by
    obtain ⟨z1, z2, c1, c2, c3, c4, c5, c6, c7⟩ := hR.1 34 e' rt1 (by unfold VwR; omega)
    have ea : z1 = v1 := (n_eq (by omega) (by omega)).mp (c1.symm.trans y1)
    have eb : z2 = v2 := (n_eq (by omega) (by omega)).mp (c3.symm.trans y2)
    rw [← ea, ← eb]; exact c5
  obtain ⟨kk, p, hO⟩ := OE_of m1.1 m2.1 gv1 (Or.inr gv2) ev
  have hO0 := hO
  obtain ⟨_, _, o3, o4, o5, o6, o7, o8, o9, o10, o11, o12, o13, o14, o15, o16, o17⟩ := hO
  have ep1 : p1 = p := (n_eq (by omega) (by omega)).mp (ln1.symm.trans o11)
  have ep2 : p2 = p := (n_eq (by omega) (by omega)).mp (ln2.symm.trans o12)
  subst ep1
  subst ep2
  -- the end
  have fin : ∀ (N1 N2 : Nat → Int32) (υ1 υ2 : MS), FEn N (mAr σ1 35 e' (nI (k2 + 1))) υ1 → FEn N (mAr σ2 35 e' (nI (k2 + 1))) υ2 → (EI t (w + 1) XC υ1 υ2 ∨ (EZ t t υ1 ∧ EZ t t υ2)) → T2 (fun k => x_stepIter k 3 N1 υ1) (fun k => x_stepIter k 3 N2 υ2) (StQ N e' t w XC σ1 σ2) := by
    intro N1 N2 υ1 υ2 f1 f2 hor
    have c1 : FI N e' σ1 υ1 := FI_tr (FI_35 (Nat.le_refl _)) (FI_fen (e1 := e' + 1) f1 h72 (by omega) (by omega))
    have c2 : FI N e' σ2 υ2 := FI_tr (FI_35 (Nat.le_refl _)) (FI_fen (e1 := e' + 1) f2 g72 (by omega) (by omega))
    have c3 : υ1.1 72 = σ1.1 72 := f1.1 72 (by unfold AlS; omega) (by decide) (by decide) (by decide)
    have c4 : υ2.1 72 = σ2.1 72 := f2.1 72 (by unfold AlS; omega) (by decide) (by decide) (by decide)
    have c5 : ∀ i, i < e' + 1 → υ1.2.2 50 i = σ1.2.2 50 i ∧ υ2.2.2 50 i = σ2.2.2 50 i := fun i hi => by
      have z1 := f1.2.1 50 i (by unfold AlR; omega) (by unfold Zn; omega) (by
        rw [show (mAr σ1 35 e' (nI (k2 + 1))).1 72 = nI (e' + 1) from h72, n_cl (p := e' + 1) (by omega)]; omega)
      have z2 := f2.2.1 50 i (by unfold AlR; omega) (by unfold Zn; omega) (by
        rw [show (mAr σ2 35 e' (nI (k2 + 1))).1 72 = nI (e' + 1) from g72, n_cl (p := e' + 1) (by omega)]; omega)
      rw [mAr_o (by decide)] at z1 z2
      exact ⟨z1, z2⟩
    refine T2_suc (fun k => by rw [x_stepIter]) (fun k => by rw [x_stepIter]) ?_
    rcases hor with hJ | ⟨z1, z2⟩
    · obtain ⟨q1, q2⟩ := EI_e hJ
      rw [q1, q2]
      refine T2_ite Iff.rfl (fun _ _ => ?_) (fun z _ => absurd rfl z)
      refine T2_suc (fun k => by rw [x_stepIter]) (fun k => by rw [x_stepIter]) ?_
      exact T2_chk (Or.inr rfl) (Or.inr rfl) (T2_some ⟨rfl, Or.inr ⟨c1, c2, c3, c4, c5, Or.inl ⟨rfl, hJ⟩⟩⟩)
    · refine T2_ite ⟨fun z => absurd z (EZ_e z1), fun z => absurd z (EZ_e z2)⟩ (fun z _ => absurd z (EZ_e z1)) (fun _ _ => ?_)
      refine T2_suc (fun k => by rw [x_stepIter]) (fun k => by rw [x_stepIter]) ?_
      refine T2_suc (fun k => by rw [x_stepIter]) (fun k => by rw [x_stepIter]) ?_
      exact T2_chk (Or.inl rfl) (Or.inl rfl) (T2_some ⟨rfl, Or.inr ⟨c1, c2, c3, c4, c5, Or.inr ⟨rfl, z1, z2⟩⟩⟩)
  refine T2_suc (fun k => by rw [x_stepIter]) (fun k => by rw [x_stepIter]) ?_
  rw [h72, g72, n_sub1 (by omega)]
  refine T2_chk (n_in (by omega) (by omega)) (n_in (by omega) (by omega)) ?_
  refine T2_chk (n_in (by omega) (by omega)) (n_in (by omega) (by omega)) ?_
  rw [n_cl (p := e') (by omega), y1, y2, s1, s2, n_add1, n_add1]
  refine T2_chk (n_in (by omega) (by omega)) (n_in (by omega) (by omega)) ?_
  rw [n_cl (p := v1 + 1) (by omega), n_cl (p := v2 + 1) (by omega), ln1, ln2]
  refine T2_ite Iff.rfl (fun _ _ => T2_some ⟨rfl, Or.inl ⟨rfl, rfl, rfl⟩⟩) (fun z _ => ?_)
  have hkp : k2 < p2 := by
    by_cases e : k2 = p2
    · exact absurd (by rw [e]) z
    · omega
  have b1 : ∀ (N1 N2 : Nat → Int32), N1 1 = nI n → N2 1 = nI n → N1 2 = nI v1 → N2 2 = nI v2 → N1 3 = nI k2 → N2 3 = nI k2 → T2 (fun k => x_stepIter k 1 N1 σ1) (fun k => x_stepIter k 1 N2 σ2) (StQ N e' t w XC σ1 σ2) := by
    intro N1 N2 n1 o1 n2 o2' n3 o3'
    refine T2_suc (fun k => by rw [x_stepIter]) (fun k => by rw [x_stepIter]) ?_
    rw [h72, g72, n_sub1 (by omega)]
    refine T2_chk (n_in (by omega) (by omega)) (n_in (by omega) (by omega)) ?_
    rw [n_cl (p := e') (by omega), n3, o3', n_add1]
    show T2 (fun k => x_stepIter k 2 N1 (mAr σ1 35 e' (nI (k2 + 1)))) (fun k => x_stepIter k 2 N2 (mAr σ2 35 e' (nI (k2 + 1)))) _
    generalize hρ1 : mAr σ1 35 e' (nI (k2 + 1)) = ρ1 at fin
    generalize hρ2 : mAr σ2 35 e' (nI (k2 + 1)) = ρ2 at fin
    have o1r : ∀ a, a ≠ 35 → ρ1.2.2 a = σ1.2.2 a := fun a ha => by rw [← hρ1]; exact mAr_o ha
    have o2r : ∀ a, a ≠ 35 → ρ2.2.2 a = σ2.2.2 a := fun a ha => by rw [← hρ2]; exact mAr_o ha
    have sc1 : ρ1.1 = σ1.1 := by rw [← hρ1]; rfl
    have sc2 : ρ2.1 = σ2.1 := by rw [← hρ2]; rfl
    have M1 : MI t X1 g1 l1 B1 h1 ρ1 := by rw [← hρ1]; exact MI_nr (Or.inl rfl) m1
    have M2 : MI t X2 g2 l2 B2 h2 ρ2 := by rw [← hρ2]; exact MI_nr (Or.inl rfl) m2
    have R1 : RA t g1 g2 ρ1 ρ2 := by rw [← hρ1, ← hρ2]; exact RA_nr (Or.inl rfl) hR
    have I1 : IT g1 ρ1 := by rw [← hρ1]; exact IT_35 i1 h72 he y1 gv1 kd1 ln1 hp1 (by omega)
    have I2 : IT g2 ρ2 := by rw [← hρ2]; exact IT_35 i2 g72 he y2 gv2 kd2 ln2 hp2 (by omega)
    have w1' : ρ1.1 57 = nI w := by rw [sc1]; exact w1
    have w2' : ρ2.1 57 = nI w := by rw [sc2]; exact w2
    have e1' : ρ1.1 56 = 0 := by rw [sc1]; exact e1
    have e2' : ρ2.1 56 = 0 := by rw [sc2]; exact e2
    refine T2_suc (fun k => by rw [x_stepIter]) (fun k => by rw [x_stepIter]) ?_
    refine T2_ob (T2_t (s_worked w1' (n := 1) (by omega) rfl) (s_worked w2' (n := 1) (by omega) rfl)) (fun r1 r2 hr' => ?_)
    obtain ⟨⟨_, W1⟩, _, W2⟩ := hr'
    have z1 := WkO_er e1' W1
    have z2 := WkO_er e2' W2
    refine T2_ite (z1.trans z2.symm) (fun er er2 => ?_) (fun er er2 => ?_)
    · have le := z1.mp er
      have q1 : r1.2 = mSc ρ1 57 (nI (w + 1)) := by
        rcases W1 with y | y
        · exact y.2
        · omega
      have q2 : r2.2 = mSc ρ2 57 (nI (w + 1)) := by
        rcases W2 with y | y
        · exact y.2
        · omega
      rw [q1, q2]
      have FE57 : ∀ σ : MS, FE σ (mSc σ 57 (nI (w + 1))) := fun σ => FE_sc (Or.inr (Or.inl rfl))
      have R2 : RA t g1 g2 (mSc ρ1 57 (nI (w + 1))) (mSc ρ2 57 (nI (w + 1))) := by
        refine RA_c R1 rfl rfl rfl rfl rfl rfl rfl rfl (fun j hj => ?_) R1.2.2.2
        show upd ρ1.1 57 (nI (w + 1)) j = upd ρ2.1 57 (nI (w + 1)) j
        by_cases c : j = 57
        · rw [c, upd_same, upd_same]
        · rw [upd_other c, upd_other c]; exact R1.2.2.1 j hj
      have hX2 : EIx t (w + 1) XC (mSc ρ1 57 (nI (w + 1))) (mSc ρ2 57 (nI (w + 1))) g1 l1 B1 h1 X1 g2 l2 B2 h2 X2 := by
        refine ⟨MI_c M1 rfl rfl rfl rfl rfl, MI_c M2 rfl rfl rfl rfl rfl, R2, IT_c rfl rfl rfl rfl I1, IT_c rfl rfl rfl rfl I2, ?_, e1', e2', rfl, ⟨le, hw.2⟩, by omega, by omega, ⟨?_, ?_⟩, a95, ?_, a2⟩
        · show ρ1.1 59 = _
          rw [sc1]; exact t1
        · show TyT (ρ1.2.2 2)
          rw [o1r 2 (by decide)]; exact ty1
        · show ρ1.2.2 2 = ρ2.2.2 2
          rw [o1r 2 (by decide), o2r 2 (by decide)]; exact ty2
        · show ρ1.1 95 = _
          rw [sc1]; exact a1
      have hST : STb T FN (mSc ρ1 57 (nI (w + 1))) := STb_b hS1 (fun j hj => by show upd ρ1.1 57 _ j = _; rw [upd_other (by omega), sc1]) (fun a i h => by show ρ1.2.2 a i = _; rw [o1r a (by omega)])
      have hCx : Cx lc fu dp (e' + 1) (mSc ρ1 57 (nI (w + 1))) := Cx_b hC (fun j hj => by show upd ρ1.1 57 _ j = _; rw [upd_other (by omega), sc1]) (kC_c (fun i => by show ρ1.2.2 20 i = _; rw [o1r 20 (by decide)]) (fun i _ => by show ρ1.2.2 21 i = _; rw [o1r 21 (by decide)]) (by show ρ1.1 30 = _; rw [sc1])) (fun i _ _ => by show ρ1.2.2 30 i = _; rw [o1r 30 (by decide)])
      have hN2 : ∀ a i, NmP T (mSc ρ1 57 (nI (w + 1))) (T 6 n) a i → N a i := fun a i z => hN a i ((NmP_c (by show ρ1.1 69 = _; rw [sc1]) (by show ρ1.1 67 = _; rw [sc1]) (by show ρ1.2.2 30 1 = _; rw [o1r 30 (by decide)])).mp z)
      have c28 : (mSc ρ1 57 (nI (w + 1))).2.2 28 = σ1.2.2 28 := o1r 28 (by decide)
      have d28 : (mSc ρ2 57 (nI (w + 1))).2.2 28 = σ2.2.2 28 := o2r 28 (by decide)
      have c34 : (mSc ρ1 57 (nI (w + 1))).2.2 34 e' = nI v1 := by
        show ρ1.2.2 34 e' = _
        rw [o1r 34 (by decide)]; exact y1
      have d34 : (mSc ρ2 57 (nI (w + 1))).2.2 34 e' = nI v2 := by
        show ρ2.2.2 34 e' = _
        rw [o2r 34 (by decide)]; exact y2
      have F1 : FE ρ1 (mSc ρ1 57 (nI (w + 1))) := FE57 ρ1
      have F2 : FE ρ2 (mSc ρ2 57 (nI (w + 1))) := FE57 ρ2
      have hO2 : OE g1 g2 ((mSc ρ1 57 (nI (w + 1))).2.2 28) ((mSc ρ2 57 (nI (w + 1))).2.2 28) v1 v2 kk p2 := by rw [c28, d28]; exact hO0
      generalize mSc ρ1 57 (nI (w + 1)) = υ1 at *
      generalize mSc ρ2 57 (nI (w + 1)) = υ2 at *
      rw [n1, o1, n2, o2', n3, o3']
      by_cases k5 : 5 ≤ kk
      · refine T2_ob (T2_t (s_memY (σ := υ1) (n := p2) (kk := kk) (j := k2) o13 (by rw [c28]; exact o9) k5 o5.2 hkp rfl rfl) (s_memY (σ := υ2) (n := p2) (kk := kk) (j := k2) o14 (by rw [d28]; exact o10) k5 o5.2 hkp rfl rfl)) (fun u1 u2 hu => ?_)
        rw [hu.1, hu.2]
        refine T2_ob (E_bind (i0 := e') (k := k2) (p := p2) (v1 := v1) (v2 := v2) hXC hST ⟨_, _, _, _, _, _, _, _, _, _, hX2⟩ hCx hn hq hW hN2 (by omega) (by omega) c34 d34 bv1 bv2 (by rw [c28, o7]; exact k5) (by rw [c28]; exact ln1) o6 hkp rfl rfl rfl rfl) (fun v1 v2 hv => ?_)
        obtain ⟨g1', g2', hv⟩ := hv
        exact fin _ _ _ _ (FE_tr (FE_n F1) g1') (FE_tr (FE_n F2) g2') hv
      · have k4 : kk = 4 := by omega
        subst k4
        have q59 : υ1.1 59 = nI t := hX2.2.2.2.2.2.1
        have u59 : υ2.1 59 = nI t := (hX2.2.2.1.2.2.1 59 (by unfold AlS; omega)).symm.trans q59
        have P1 : VP g1 l1 B1 h1 t υ1 := ⟨hX2.1.1, q59, by omega, ⟨0, hX2.2.2.2.2.2.2.1, by decide⟩⟩
        have P2 : VP g2 l2 B2 h2 t υ2 := ⟨hX2.2.1.1, u59, by omega, ⟨0, hX2.2.2.2.2.2.2.2.1, by decide⟩⟩
        refine T2_ob (T2_of (Tm_and (s_memberAt (v := v1) (n := p2) (i := k2) P1 gv1 (by rw [c28]; exact kd1) (by rw [c28]; exact ln1) hkp o6 rfl rfl) (s_memX (v := v1) (n := p2) (j := k2) hX2.1.1 (by omega) hX2.2.2.2.2.2.2.1 o13 (by rw [c28]; exact o9) hkp rfl rfl)) (Tm_and (s_memberAt (v := v2) (n := p2) (i := k2) P2 gv2 (by rw [d28]; exact kd2) (by rw [d28]; exact ln2) hkp o6 rfl rfl) (s_memX (v := v2) (n := p2) (j := k2) hX2.2.1.1 (by omega) hX2.2.2.2.2.2.2.2.1 o14 (by rw [d28]; exact o10) hkp rfl rfl)) (fun n' => Pm_wl (fun k => wl_memberAt k _ _ _) (fun k => wl_memberAt k _ _ _) (k_memberAt hX2.1.1 hX2.2.1.1 hX2.2.2.2.2.2.2.1 hX2.2.2.2.2.2.2.2.1 (by omega) (by omega) hO2 (by omega) hkp rfl rfl rfl rfl))) (fun u1 u2 hu => ?_)
        obtain ⟨⟨kq, wl1, wl2⟩, ⟨va, xa1, xa2, xa3, xa4⟩, ⟨vb, xb1, xb2, xb3, xb4⟩⟩ := hu
        obtain ⟨gC, lC, hC', gD, lD, hD', p1', p2', p3', p4', p5', p6', p7', p8', p9', p10'⟩ := KQ_gr (by omega) hX2.1.1 hX2.2.1.1 va vb kq xa2
        obtain ⟨q1', q2', q3'⟩ := RA_gr hX2.1 hX2.2.1 hX2.2.2.1 p1' p2' p3' p4' (p5'.trans p6'.symm) (by rw [wl1, wl2]; exact hX2.2.2.1.2.2.2)
        have eo1 := (MI_gr hX2.1 p1' p3').2
        have eo2 := (MI_gr hX2.2.1 p2' p4').2
        have G1 : FE υ1 u1.2 := FE_eo hX2.1.2.1 eo1
        have G2 : FE υ2 u2.2 := FE_eo hX2.2.1.2.1 eo2
        obtain ⟨_, _, _, i1', i2', _, _, _, w57, hw', x1', x2', ⟨ty1', ty2'⟩, c95, b95, b95'⟩ := id hX2
        have hX3 : EIx t (w + 1) XC u1.2 u2.2 gC lC B1 hC' X1 gD lD B2 hD' X2 := ⟨q1', q2', q3', IT_eo hX2.1.2.1 hX2.1.1 (Or.inr ⟨B1, hC', p1'.1⟩) eo1 i1', IT_eo hX2.2.1.2.1 hX2.2.1.1 (Or.inr ⟨B2, hD', p2'.1⟩) eo2 i2', p5', xa2, xb2, (p3'.1 57 (by decide)).trans w57, ⟨hw'.1, by omega, by omega⟩, x1', x2', ⟨by rw [G1.2.2.1]; exact ty1', by rw [G1.2.2.1, G2.2.2.1]; exact ty2'⟩, c95, (p3'.1 95 (by decide)).trans b95, b95'⟩
        have bh1 := HS_b m1.1
        have bh2 := HS_b m2.1
        rw [xa1, xb1] at p8'
        have gm1 : gC h1 := by
          obtain ⟨z1, z2, c1, c2, c3, c4, c5, c6, c7⟩ := p8'
          have ea : h1 = z1 := (n_eq (by omega) (by omega)).mp c1
          rw [ea]
          have hB := m1.1.2.1
          obtain ⟨vv, _, _, hvb⟩ := HS_at m1.1 gv1
          exact c2.resolve_left (by have := hvb; omega)
        have gm2 : gD h2 := by
          obtain ⟨z1, z2, c1, c2, c3, c4, c5, c6, c7⟩ := p8'
          have ea : h2 = z2 := (n_eq (by omega) (by omega)).mp c3
          rw [ea]
          exact c4.resolve_left (by obtain ⟨_, _, _, _, _, hvb1, hvb2⟩ := HS_at m2.1 gv2; omega)
        rw [xa1, xb1]
        refine T2_ob (E_bindL (m1 := h1) (m2 := h2) hXC (STb_fe hST G1) hX3 (Cx_fe hCx G1) hn hq hW (fun a i z => hN2 a i ((NmP_fe G1).mp z)) (by omega) (by omega) gm1 gm2 p8' xa3 xb3 xa4 xb4 rfl rfl rfl rfl) (fun s1 s2 hs => ?_)
        obtain ⟨g1', g2', hs⟩ := hs
        exact fin _ _ _ _ (FE_tr (FE_n F1) (FE_tr (FE_n G1) g1')) (FE_tr (FE_n F2) (FE_tr (FE_n G2) g2')) hs
    · have q1 : r1.2 = mEr (mSc ρ1 57 (nI (w + 1))) (nI 11) := by
        rcases W1 with y | y
        · exact absurd (z1.mpr y.1) er
        · exact y.2
      have q2 : r2.2 = mEr (mSc ρ2 57 (nI (w + 1))) (nI 11) := by
        rcases W2 with y | y
        · exact absurd (z2.mpr y.1) er2
        · exact y.2
      rw [q1, q2]
      refine fin _ _ _ _ (FE_n (FE_tr (FE_sc (Or.inr (Or.inl rfl))) FE_er)) (FE_n (FE_tr (FE_sc (Or.inr (Or.inl rfl))) FE_er)) (Or.inr ⟨?_, ?_⟩)
      · exact EZ_er (w := w + 1) (MI_c M1 rfl rfl rfl rfl rfl) (by omega) (by show ρ1.1 59 = _; rw [sc1]; exact t1) e1' rfl (by omega) ⟨a95, by show ρ1.1 95 = _; rw [sc1]; exact a1, a2⟩ (by decide) (by decide) (Nat.le_refl _) (Nat.le_refl _)
      · exact EZ_er (w := w + 1) (MI_c M2 rfl rfl rfl rfl rfl) (by omega) (by show ρ2.1 59 = _; rw [sc2]; exact t2) e2' rfl (by omega) ⟨a95, by show ρ2.1 95 = _; rw [sc2]; exact a3, a2⟩ (by decide) (by decide) (Nat.le_refl _) (Nat.le_refl _)
  exact b1 _ _ d1 d2 rfl rfl rfl rfl
end STE
