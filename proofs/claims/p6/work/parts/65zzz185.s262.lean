/-! Statements on both sides (reference): print, the whole statement. -/
/-- a list of exps -/
def ExL (T : Nat → Nat → Int32) (FN : Nat → Nat → Prop) (lc : Nat → Prop) : Nat → Int32 → Prop
  | 0, x => x = -1
  | q + 1, x => ∃ e, x = nI e ∧ (1 ≤ e ∧ e < LNo T % 70001) ∧ Wx0 T FN lc x ∧ ExL T FN lc q (T 9 e)
/-- behind a statement, whatever lies upon the pile -/
def OuE (T : Nat → Nat → Int32) (FN : Nat → Nat → Prop) (S : Nat → Nat → Nat → Nat → Prop) (w : Nat) (σ1 σ2 r1 r2 : MS) : Prop := ∃ t XC, XC ≤ 401000 ∧ OuQ T FN S t w XC σ1 σ2 r1 r2
section PRN
variable {T : Nat → Nat → Int32} {FN : Nat → Nat → Prop} {S : Nat → Nat → Nat → Nat → Prop} {t w XC : Nat} {σ1 σ2 : MS}
/-- all bytes of a value are put out -/
theorem pr_6 {Q : Int32 × MS → Int32 × MS → Prop} {ν1 ν2 : MS} {wd : Nat} (hwd : wd ≤ 12000) (K1 K2 : Nat → Int32) (hQ : ∀ (ξ1 ξ2 : MS) (M1 M2 : Nat → Int32), OuF ν1 ξ1 → OuF ν2 ξ2 → ξ1.1 106 = ξ2.1 106 → Ou6 ξ1 → (∀ i, i ≠ 4 → M1 i = K1 i) → (∀ i, i ≠ 4 → M2 i = K2 i) → T2 (fun k => x_prints k 7 M1 ξ1) (fun k => x_prints k 7 M2 ξ2) Q) : ∀ (e j o : Nat) (ξ1 ξ2 : MS) (M1 M2 : Nat → Int32), e + j = wd → OuF ν1 ξ1 → OuF ν2 ξ2 → ξ1.1 106 = nI o → ξ2.1 106 = nI o → o ≤ 2000000000 → ξ1.1 93 = nI wd → ξ2.1 93 = nI wd → AgN (ξ1.2.2 48) (ξ2.2.2 48) wd → (∀ i, i ≠ 4 → M1 i = K1 i) → (∀ i, i ≠ 4 → M2 i = K2 i) → M1 4 = nI j → M2 4 = nI j → T2 (fun k => x_prints k 6 M1 ξ1) (fun k => x_prints k 6 M2 ξ2) Q := by
  intro e
  induction e with
  | zero =>
    intro j o ξ1 ξ2 M1 M2 he f1 f2 o1 o2 ho h93 k93 ag a1 a2 m4 n4
    have ej : j = wd := by omega
    subst ej
    refine T2_suc (fun k => by rw [x_prints]) (fun k => by rw [x_prints]) ?_
    rw [h93, k93, m4, n4]
    refine T2_ite Iff.rfl (fun _ _ => ?_) (fun z _ => absurd (Int32.le_refl _) z)
    exact hQ ξ1 ξ2 M1 M2 f1 f2 (o1.trans o2.symm) ⟨o, o1, ho⟩ a1 a2
  | succ e ih =>
    intro j o ξ1 ξ2 M1 M2 he f1 f2 o1 o2 ho h93 k93 ag a1 a2 m4 n4
    refine T2_suc (fun k => by rw [x_prints]) (fun k => by rw [x_prints]) ?_
    rw [h93, k93, m4, n4]
    refine T2_ite Iff.rfl (fun z _ => ?_) (fun _ _ => ?_)
    · have := (n_le (by omega) (by omega)).mp z
      omega
    refine T2_chk (n_in (by omega) (by omega)) (n_in (by omega) (by omega)) ?_
    refine T2_ob (T2_t (s_putOut o1 ho _) (s_putOut o2 ho _)) (fun r1 r2 hr => ?_)
    obtain ⟨⟨s1, q1, l1, u1⟩, ⟨s2, q2, l2, u2⟩⟩ := hr
    rw [n_add1]
    have ob : (if 2000000000 ≤ o then o else o + 1) ≤ 2000000000 := by
      by_cases z : 2000000000 ≤ o
      · rw [if_pos z]; exact ho
      · rw [if_neg z]; omega
    refine ih (j + 1) _ r1.2 r2.2 _ _ (by omega) (OuF_tr f1 ⟨fun i _ _ h => s1 i h, fun a _ _ _ h => q1 a h, l1⟩) (OuF_tr f2 ⟨fun i _ _ h => s2 i h, fun a _ _ _ h => q2 a h, l2⟩) u1 u2 ob ((s1 93 (by decide)).trans h93) ((s2 93 (by decide)).trans k93) ?_ (fun i hi => ?_) (fun i hi => ?_) rfl rfl
    · rw [q1 48 (by decide), q2 48 (by decide)]; exact ag
    · rw [upd_other hi]; exact a1 i hi
    · rw [upd_other hi]; exact a2 i hi
/-- print -/
theorem E_prints (hW : SWf T FN S) (hXC : XC ≤ 401000) {c un d v n w' q : Nat} {F : List Nat} {τ1 τ2 : MS} (ht : t + q + 9 + KBn T ≤ 17000) (hw : w ≤ w') (hM : Mid T FN S t w' XC σ1 σ2 τ1 τ2) (hP : Pos T S c un d v n F τ1) (hL : ExL T FN (lcU un T) q (T 5 n)) {L1 L2 : Nat → Int32} (d1 : L1 1 = nI n) (d2 : L2 1 = nI n) : T2 (fun k => x_prints k 0 L1 τ1) (fun k => x_prints k 0 L2 τ2) (fun r1 r2 => OuE T FN S w σ1 σ2 r1.2 r2.2) := by
  obtain ⟨hE, U1, U2, B1, B2, kp⟩ := id hM
  have w6 := EI_w hE
  obtain ⟨_, _, ⟨n7, _, _⟩, pb3, pb4⟩ := Pos_b hW hP
  have hSc := Pos_sc B1 hP
  obtain ⟨s1, s2⟩ := EI_59 hE
  have two : ∀ (ρ1 ρ2 : MS) (K1 K2 : Nat → Int32), FE τ1 ρ1 → FE τ2 ρ2 → EZ t 179300 ρ1 → EZ t 179300 ρ2 → T2 (fun k => x_prints k 2 K1 ρ1) (fun k => x_prints k 2 K2 ρ2) (fun r1 r2 => OuE T FN S w σ1 σ2 r1.2 r2.2) := by
    intro ρ1 ρ2 K1 K2 f1 f2 z1 z2
    refine T2_suc (fun k => by rw [x_prints]) (fun k => by rw [x_prints]) ?_
    refine T2_ite ⟨fun z => absurd z (EZ_le z1), fun z => absurd z (EZ_le z2)⟩ (fun z _ => absurd z (EZ_le z1)) (fun _ _ => ?_)
    exact T2_some ⟨t, XC, hXC, OuQ_z (I := fun _ => False) hM (FC_fe f1) (FC_fe f2) (UT_fe f1 U1) (UT_fe f2 U2) (by omega) z1 z2⟩
  -- values are printed
  have four : ∀ (w2 : Nat) (ρ1 ρ2 : MS), w ≤ w2 → Mid T FN S (t + q) w2 XC σ1 σ2 ρ1 ρ2 → Pos T S c un d v n F ρ1 → ∀ (e i : Nat) (ν1 ν2 : MS) (K1 K2 : Nat → Int32), e + i = q → OuF ρ1 ν1 → OuF ρ2 ν2 → ν1.1 106 = ν2.1 106 → Ou6 ν1 → K1 1 = nI n → K2 1 = nI n → K1 3 = nI (t + i) → K2 3 = nI (t + i) → T2 (fun k => x_prints k 4 K1 ν1) (fun k => x_prints k 4 K2 ν2) (fun r1 r2 => OuE T FN S w σ1 σ2 r1.2 r2.2) := by
    intro w2 ρ1 ρ2 hw2 hK hPk e
    have hE := hK.1
    obtain ⟨p1, p2⟩ := EI_59 hE
    have hE0 := hE
    obtain ⟨g1, l1, D1, hh1, X1, g2, l2, D2, hh2, X2, m1, m2, hR, _⟩ := hE0
    induction e with
    | zero =>
      intro i ν1 ν2 K1 K2 he f1 f2 h6 ho k1 l1' k3 l3
      have ei : i = q := by omega
      subst ei
      refine T2_suc (fun k => by rw [x_prints]) (fun k => by rw [x_prints]) ?_
      rw [f1.1 59 (by decide) (by decide) (by decide), f2.1 59 (by decide) (by decide) (by decide), p1, p2, k3, l3]
      refine T2_ite Iff.rfl (fun _ _ => ?_) (fun z _ => absurd (Int32.le_refl _) z)
      refine T2_suc (fun k => by rw [x_prints]) (fun k => by rw [x_prints]) ?_
      exact T2_ob (E_pass hW hXC (by omega) hw2 (Mid_o f1 f2 h6 ho hK) (Pos_o f1 hPk) (by exact k1) (by exact l1')) (fun r1 r2 hr => T2_some ⟨t + i, XC, hXC, hr⟩)
    | succ e ih =>
      intro i ν1 ν2 K1 K2 he f1 f2 h6 ho k1 l1' k3 l3
      obtain ⟨va, vb, a1, a2, a3, a4, a5, a6, a7⟩ := hR.1 29 (t + i) (Or.inl ⟨rfl, by omega⟩) (by unfold VwR; omega)
      have sb := szN_b m1.1 a2
      have sb2 := szN_b m2.1 a4
      refine T2_suc (fun k => by rw [x_prints]) (fun k => by rw [x_prints]) ?_
      rw [f1.1 59 (by decide) (by decide) (by decide), f2.1 59 (by decide) (by decide) (by decide), p1, p2, k3, l3]
      refine T2_ite Iff.rfl (fun z _ => ?_) (fun _ _ => ?_)
      · have := (n_le (by omega) (by omega)).mp z
        omega
      show T2 (fun k => x_prints k 5 K1 (mSc ν1 93 0)) (fun k => x_prints k 5 K2 (mSc ν2 93 0)) _
      have c1 : OuF ρ1 (mSc ν1 93 0) := OuF_tr f1 ⟨fun j _ h _ => upd_other h, fun _ _ _ _ _ => rfl, rfl⟩
      have c2 : OuF ρ2 (mSc ν2 93 0) := OuF_tr f2 ⟨fun j _ h _ => upd_other h, fun _ _ _ _ _ => rfl, rfl⟩
      have q93 : (mSc ν1 93 0).1 93 = nI 0 := rfl
      have r93 : (mSc ν2 93 0).1 93 = nI 0 := rfl
      have q6 : (mSc ν1 93 0).1 106 = (mSc ν2 93 0).1 106 := h6
      have o6 : Ou6 (mSc ν1 93 0) := ho
      generalize mSc ν1 93 0 = μ1 at *
      generalize mSc ν2 93 0 = μ2 at *
      have H1 : HS g1 l1 D1 hh1 μ1 := HS_c m1.1 (c1.1 54 (by decide) (by decide) (by decide)) (c1.1 55 (by decide) (by decide) (by decide)) (c1.2.1 28 (by decide) (by decide) (by decide) (by decide))
      have H2 : HS g2 l2 D2 hh2 μ2 := HS_c m2.1 (c2.1 54 (by decide) (by decide) (by decide)) (c2.1 55 (by decide) (by decide) (by decide)) (c2.2.1 28 (by decide) (by decide) (by decide) (by decide))
      have v28 : μ1.2.2 28 = ρ1.2.2 28 := c1.2.1 28 (by decide) (by decide) (by decide) (by decide)
      have u28 : μ2.2.2 28 = ρ2.2.2 28 := c2.2.1 28 (by decide) (by decide) (by decide) (by decide)
      have ev : EVb (μ1.2.2 28) (μ2.2.2 28) va vb := by rw [v28, u28]; exact a5
      have x1 : μ1.2.2 29 (t + i) = nI va := by rw [c1.2.1 29 (by decide) (by decide) (by decide) (by decide)]; exact a1
      have x2 : μ2.2.2 29 (t + i) = nI vb := by rw [c2.2.1 29 (by decide) (by decide) (by decide) (by decide)]; exact a3
      refine T2_suc (fun k => by rw [x_prints]) (fun k => by rw [x_prints]) ?_
      rw [k3, l3]
      refine T2_chk (n_in (by omega) (by omega)) (n_in (by omega) (by omega)) ?_
      rw [n_cl (p := t + i) (by omega), x1, x2]
      refine T2_ob (T2_of (s_printV H1 a2 q93 (by rw [v28]; omega) rfl) (s_printV H2 a4 r93 (by rw [u28]; omega) rfl) (fun m => Pm_wl (fun k => wl_print k 0 _ μ1) (fun k => wl_print k 0 _ μ2) (k_printV H1 H2 a2 a4 ev ⟨0, by omega, q93, r93, fun j hj => by omega⟩ ⟨fun j hj => ?_, rfl, rfl⟩))) (fun r1 r2 hr => ?_)
      · by_cases e2 : j = 2
        · rw [e2]; rfl
        · rw [upd_other e2, upd_other e2, upd_other (by omega), upd_other (by omega)]
      obtain ⟨⟨⟨⟨wd, hwd, w93, z93, ag⟩, P1, P2⟩, wl1, wl2⟩, _, _⟩ := hr
      have g1' : OuF ρ1 r1.2 := OuF_tr c1 ⟨fun j h1 h2 _ => P1.1 j (by omega), fun a h1 h2 h3 _ => P1.2 a (by omega), wl1⟩
      have g2' : OuF ρ2 r2.2 := OuF_tr c2 ⟨fun j h1 h2 _ => P2.1 j (by omega), fun a h1 h2 h3 _ => P2.2 a (by omega), wl2⟩
      obtain ⟨o, o1, o2⟩ := o6
      have o1' : r1.2.1 106 = nI o := (P1.1 106 (by decide)).trans o1
      have o2' : r2.2.1 106 = nI o := (P2.1 106 (by decide)).trans (q6.symm.trans o1)
      refine pr_6 (ν1 := ρ1) (ν2 := ρ2) hwd K1 K2 (fun ξ1 ξ2 M1 M2 b1 b2 b6 bo ma mb => ?_) wd 0 o r1.2 r2.2 _ _ (by omega) g1' g2' o1' o2' o2 w93 z93 ag (fun j hj => upd_other hj) (fun j hj => upd_other hj) rfl rfl
      -- the end of one
      have m3 : M1 3 = nI (t + i) := (ma 3 (by decide)).trans k3
      have n3 : M2 3 = nI (t + i) := (mb 3 (by decide)).trans l3
      have nine : ∀ (x : Int32) (J1 J2 : Nat → Int32), J1 1 = nI n → J2 1 = nI n → J1 3 = nI (t + i) → J2 3 = nI (t + i) → J1 100 = x → J2 100 = x → T2 (fun k => x_prints k 9 J1 ξ1) (fun k => x_prints k 9 J2 ξ2) (fun r1 r2 => OuE T FN S w σ1 σ2 r1.2 r2.2) := by
        intro x J1 J2 j1 i1 j3 i3 j100 i100
        obtain ⟨o', y1, y2⟩ := bo
        refine T2_suc (fun k => by rw [x_prints]) (fun k => by rw [x_prints]) ?_
        refine T2_ob (T2_t (s_putOut y1 y2 _) (s_putOut (b6.symm.trans y1) y2 _)) (fun r1 r2 hr => ?_)
        obtain ⟨⟨s1, q1, l1, u1⟩, ⟨s2, q2, l2, u2⟩⟩ := hr
        rw [j3, i3, n_add1]
        have ob : (if 2000000000 ≤ o' then o' else o' + 1) ≤ 2000000000 := by
          by_cases z : 2000000000 ≤ o'
          · rw [if_pos z]; exact y2
          · rw [if_neg z]; omega
        exact ih (i + 1) r1.2 r2.2 _ _ (by omega) (OuF_tr b1 ⟨fun i _ _ h => s1 i h, fun a _ _ _ h => q1 a h, l1⟩) (OuF_tr b2 ⟨fun i _ _ h => s2 i h, fun a _ _ _ h => q2 a h, l2⟩) (u1.trans u2.symm) ⟨_, u1, ob⟩ j1 i1 rfl rfl
      refine T2_suc (fun k => by rw [x_prints]) (fun k => by rw [x_prints]) ?_
      rw [m3, n3, b1.1 59 (by decide) (by decide) (by decide), b2.1 59 (by decide) (by decide) (by decide), p1, p2]
      have jm1 : M1 1 = nI n := (ma 1 (by decide)).trans k1
      have jm2 : M2 1 = nI n := (mb 1 (by decide)).trans l1'
      refine T2_ite Iff.rfl (fun _ _ => nine 10 _ _ jm1 jm2 m3 n3 rfl rfl) (fun _ _ => ?_)
      refine T2_suc (fun k => by rw [x_prints]) (fun k => by rw [x_prints]) ?_
      exact nine 32 _ _ jm1 jm2 m3 n3 rfl rfl
  -- the list is evaluated
  have lp : ∀ (q' i : Nat) (x : Int32) (ρ1 ρ2 : MS) (K1 K2 : Nat → Int32), q' + i = q → ExL T FN (lcU un T) q' x → FE τ1 ρ1 → FE τ2 ρ2 → ((∃ w2, w' ≤ w2 ∧ EI (t + i) w2 XC ρ1 ρ2) ∨ (EZ t 179300 ρ1 ∧ EZ t 179300 ρ2)) → K1 1 = nI n → K2 1 = nI n → K1 2 = nI t → K2 2 = nI t → K1 3 = x → K2 3 = x → T2 (fun k => x_prints k 1 K1 ρ1) (fun k => x_prints k 1 K2 ρ2) (fun r1 r2 => OuE T FN S w σ1 σ2 r1.2 r2.2) := by
    intro q'
    induction q' with
    | zero =>
      intro i x ρ1 ρ2 K1 K2 hq hL f1 f2 hor k1 l1 k2 l2 k3 l3
      have hx0 : x = -1 := hL
      have ei : i = q := by omega
      subst ei
      refine T2_suc (fun k => by rw [x_prints]) (fun k => by rw [x_prints]) ?_
      rw [k3, l3, hx0]
      refine T2_ite Iff.rfl (fun _ _ => ?_) (fun z _ => absurd rfl z)
      rcases hor with ⟨w2, hw2, hJ⟩ | ⟨z1, z2⟩
      · obtain ⟨e1, e2⟩ := EI_e hJ
        refine T2_suc (fun k => by rw [x_prints]) (fun k => by rw [x_prints]) ?_
        rw [e1, e2]
        refine T2_ite Iff.rfl (fun _ _ => ?_) (fun z _ => absurd (by decide) z)
        refine T2_suc (fun k => by rw [x_prints]) (fun k => by rw [x_prints]) ?_
        have hK : Mid T FN S (t + i) w2 XC σ1 σ2 ρ1 ρ2 := Mid_fc (I := fun _ => False) hM (FC_fe f1) (FC_fe f2) hJ (UT_fe f1 U1) (UT_fe f2 U2)
        have o6 : ρ1.1 106 = ρ2.1 106 := by
          obtain ⟨g1, l1, B1, h1, X1, g2, l2, B2, h2, X2, _, _, hR, _⟩ := hJ
          exact hR.2.2.1 106 (by unfold AlS; omega)
        exact four w2 ρ1 ρ2 (Nat.le_trans hw hw2) hK (Pos_fs hW (FS_fe f1) hP) i 0 ρ1 ρ2 _ _ (by omega) OuF_rf OuF_rf o6 hK.2.2.2.2.2.2.2 k1 l1 k2 l2
      · exact two ρ1 ρ2 _ _ f1 f2 z1 z2
    | succ q' ih =>
      intro i x ρ1 ρ2 K1 K2 hq hL f1 f2 hor k1 l1 k2 l2 k3 l3
      obtain ⟨e, xe, he, hX, hL⟩ := hL
      refine T2_suc (fun k => by rw [x_prints]) (fun k => by rw [x_prints]) ?_
      rw [k3, l3, xe]
      refine T2_ite Iff.rfl (fun z _ => absurd z (ne_m1 he)) (fun _ _ => ?_)
      rcases hor with ⟨w2, hw2, hJ⟩ | ⟨z1, z2⟩
      · obtain ⟨e1, e2⟩ := EI_e hJ
        rw [e1, e2]
        refine T2_ite Iff.rfl (fun _ _ => ?_) (fun z _ => absurd rfl z)
        refine T2_ob (E_eval (by omega) (by omega) (Sc0_fe hSc.1 f1) (by rw [← xe]; exact hX) hJ rfl rfl) (fun r1 r2 hr => ?_)
        obtain ⟨j1, j2, hr⟩ := hr
        have D1 := (STb_fe B1.1 (FE_tr f1 j1)).1 9 e (by omega) (by omega) (by omega)
        have D2 := (STb_fe B2.1 (FE_tr f2 j2)).1 9 e (by omega) (by omega) (by omega)
        refine T2_chk (n_in (by omega) (by omega)) (n_in (by omega) (by omega)) ?_
        rw [n_cl (p := e) (by omega), D1, D2]
        refine ih (i + 1) (T 9 e) r1.2 r2.2 _ _ (by omega) hL (FE_tr f1 j1) (FE_tr f2 j2) (hr.imp (fun ⟨w3, h3, h⟩ => ⟨w3, by omega, h⟩) (fun ⟨a, b⟩ => ⟨EZ_mo a (by omega) (by omega), EZ_mo b (by omega) (by omega)⟩)) k1 l1 k2 l2 rfl rfl
      · refine T2_ite ⟨fun z => absurd z (EZ_e z1), fun z => absurd z (EZ_e z2)⟩ (fun z _ => absurd z (EZ_e z1)) (fun _ _ => ?_)
        exact two ρ1 ρ2 _ _ f1 f2 z1 z2
  refine T2_suc (fun k => by rw [x_prints]) (fun k => by rw [x_prints]) ?_
  rw [d1, d2]
  refine T2_chk (n_in (by omega) (by omega)) (n_in (by omega) (by omega)) ?_
  rw [n_cl (p := n) (by omega), B1.1.1 5 _ (by omega) (by omega) (by omega), B2.1.1 5 _ (by omega) (by omega) (by omega), s1, s2]
  exact lp q 0 (T 5 n) τ1 τ2 _ _ (by omega) hL FE_rf FE_rf (Or.inl ⟨w', Nat.le_refl _, hE⟩) d1 d2 rfl rfl rfl rfl
end PRN
