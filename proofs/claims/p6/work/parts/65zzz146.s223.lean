/-! Evaluation on both sides (reference): the loop of a former. -/
/-- a former's loop, q rounds are left at the most -/
def FoP (N : Nat → Nat → Prop) (n c e0 m t w XC : Nat) (it : Nat → Nat) (σ1 σ2 : MS) (q : Nat) : Prop := ∀ (j w' : Nat) (N1 N2 : Nat → Int32) (τ1 τ2 : MS), 60001 ≤ q + w' → j + w + 1 ≤ w' → FoL n t e0 N1 → FoL n t e0 N2 → N1 4 = 1 → N2 4 = 1 → FI N e0 σ1 τ1 → FI N e0 σ2 τ2 → GIt e0 m it τ1 τ2 → EI (t + j) w' XC τ1 τ2 → T2 (fun k => x_GV k (c + 3) 5 1 N1 τ1) (fun k => x_GV k (c + 3) 5 1 N2 τ2) (EQ (178000 + (c + 3)) t w XC σ1 σ2)
section EFL
variable {T : Nat → Nat → Int32} {FN : Nat → Nat → Prop} {O r K d t u w XC : Nat} {lc : Nat → Prop} {σ σ1 σ2 τ τ1 τ2 ρ : MS} {n c m e0 fu dp : Nat} {it : Nat → Nat}
/-- behind goOn: the next round, or the end -/
theorem fo_ent {q j w' : Nat} (hXC : XC ≤ 408500) (h60 : t + (60000 - w) ≤ 174000) (hF : FoC T FN O K lc n e0 m fu dp it σ1 σ2) (hq : FoP (NmI T σ1 it 0 m) n c e0 m t w XC it σ1 σ2 q) (hw : 60000 ≤ q + w') (hj : j + w ≤ w') {r1 r2 : Int32 × MS} (hr : GnQ (NmI T σ1 it 0 m) (178000 + c) e0 m (t + j) w' XC it σ1 σ2 r1 r2) {N1 N2 : Nat → Int32} (hN1 : FoL n t e0 N1) (hN2 : FoL n t e0 N2) (n4 : N1 4 = r1.1) (o4 : N2 4 = r2.1) : T2 (fun k => x_GV k (c + 3) 5 1 N1 r1.2) (fun k => x_GV k (c + 3) 5 1 N2 r2.2) (EQ (178000 + (c + 3)) t w XC σ1 σ2) := by
  obtain ⟨g1, g2, h12, hor⟩ := hr
  rcases hor with ⟨w2, hw2, hJ, hor⟩ | ⟨z0, z1, z2, y1, y2⟩
  · rcases hor with ⟨y0, yw, hG⟩ | ⟨y0, y72, rm1, rm2⟩
    · exact hq j w2 N1 N2 r1.2 r2.2 (by omega) (by omega) hN1 hN2 (n4.trans y0) (o4.trans (h12.symm.trans y0)) g1 g2 hG hJ
    · have := EI_w hJ
      refine T2_suc (fun k => e_former_1 k _ _ _) (fun k => e_former_1 k _ _ _) ?_
      rw [n4, o4, ← h12, y0]
      refine T2_ite Iff.rfl (fun _ _ => ?_) (fun z _ => absurd rfl z)
      exact b_fend hXC hF (by omega) (by omega) (by omega) g1 g2 y72 rm1 rm2 hJ hN1 hN2
  · refine T2_suc (fun k => e_former_1 k _ _ _) (fun k => e_former_1 k _ _ _) ?_
    rw [n4, o4, ← h12, z0]
    refine T2_ite Iff.rfl (fun _ _ => ?_) (fun z _ => absurd rfl z)
    exact b_fendZ hF g1 g2 (by omega) (EZ_mo z1 (by omega) (Nat.le_refl _)) (EZ_mo z2 (by omega) (Nat.le_refl _)) y1 y2 hN1 hN2
/-- an error within the loop -/
theorem fo_z3 {b : Nat} (hF : FoC T FN O K lc n e0 m fu dp it σ1 σ2) (f1 : FI (NmI T σ1 it 0 m) e0 σ1 τ1) (f2 : FI (NmI T σ1 it 0 m) e0 σ2 τ2) (hb : b ≤ 178000 + (c + 3)) (z1 : EZ t b τ1) (z2 : EZ t b τ2) (y1 : τ1.1 72 = nI (e0 + m)) (y2 : τ2.1 72 = nI (e0 + m)) {N1 N2 : Nat → Int32} (hN1 : FoL n u e0 N1) (hN2 : FoL n u e0 N2) : T2 (fun k => x_GV k (c + 3) 5 3 N1 τ1) (fun k => x_GV k (c + 3) 5 3 N2 τ2) (EQ (178000 + (c + 3)) t w XC σ1 σ2) := by
  have hK := hF.2.2.2.2.2.1
  refine T2_suc (fun k => e_former_3 k _ _ _) (fun k => e_former_3 k _ _ _) ?_
  refine T2_ite ⟨fun z => absurd z (EZ_e z1), fun z => absurd z (EZ_e z2)⟩ (fun z _ => absurd z (EZ_e z1)) (fun _ _ => ?_)
  refine T2_suc (fun k => e_former_4 k _ _ _) (fun k => e_former_4 k _ _ _) ?_
  refine T2_suc (fun k => e_former_5 k _ _ _) (fun k => e_former_5 k _ _ _) ?_
  refine T2_suc (fun k => e_former_1 k _ _ _) (fun k => e_former_1 k _ _ _) ?_
  refine T2_ite (c1 := (0 : Int32) = 0) (c2 := (0 : Int32) = 0) Iff.rfl (fun _ _ => ?_) (fun z _ => absurd rfl z)
  exact b_fendZ hF f1 f2 hb z1 z2 ⟨e0 + m, by omega, by omega, y1⟩ ⟨e0 + m, by omega, by omega, y2⟩ hN1 hN2
theorem fo_3 {q j w' : Nat} (hE0 : PE T FN c) (hO : 1 ≤ O) (hP : PC T FN O r K lc (c + 5) t w XC σ1) (hF : FoC T FN (O - 1) K lc n e0 m fu dp it σ1 σ2) (hq : FoP (NmI T σ1 it 0 m) n c e0 m t w XC it σ1 σ2 q) (hw : 60000 ≤ q + w') (hj : j + w ≤ w') {N1 N2 : Nat → Int32} (hN1 : FoL n t e0 N1) (hN2 : FoL n t e0 N2) (f1 : FI (NmI T σ1 it 0 m) e0 σ1 τ1) (f2 : FI (NmI T σ1 it 0 m) e0 σ2 τ2) (hG : GIt e0 m it τ1 τ2) (hI : EI (t + j) w' XC τ1 τ2) : T2 (fun k => x_GV k (c + 3) 5 3 N1 τ1) (fun k => x_GV k (c + 3) 5 3 N2 τ2) (EQ (178000 + (c + 3)) t w XC σ1 σ2) := by
  have h60 := PC_t60 hP
  have hw6 := EI_w hI
  have hXC := hP.2.1
  have hn := hF.1
  have hK := hF.2.2.2.2.2.1
  obtain ⟨e1, e2⟩ := EI_e hI
  refine T2_suc (fun k => e_former_3 k _ _ _) (fun k => e_former_3 k _ _ _) ?_
  rw [e1, e2, hN1.1, hN2.1]
  refine T2_ite Iff.rfl (fun _ _ => ?_) (fun z _ => absurd rfl z)
  refine T2_chk (n_in (by omega) (by omega)) (n_in (by omega) (by omega)) ?_
  rw [n_cl (p := n) (by omega), (FoC_tb hF f1 f2 (a := 6) (by omega) (by omega) (by omega)).1, (FoC_tb hF f1 f2 (a := 6) (by omega) (by omega) (by omega)).2]
  refine T2_od ?_
  refine T2_ob (b_goOn (N := NmI T σ1 it 0 m) (x := 0) hE0 hO hP hF.2.2.2.1.2.2.2.2.1 hK.1 hF.2.2.1 hF.2.2.2.2.2.2.1 hF.2.2.2.2.2.2.2.1 (fun j hj a i z => ⟨j, Nat.zero_le _, hj, z⟩) (by omega) (by omega) (by omega) (Nat.le_refl m) (Or.inl ⟨rfl, hF.2.2.2.2.2.2.1⟩) f1 f2 hG hI (by exact hN1.2.2) (by exact hN2.2.2) (by exact hF.2.2.2.2.2.2.2.2) (by exact hF.2.2.2.2.2.2.2.2) rfl rfl) (fun r1 r2 hr => ?_)
  have h12 := hr.2.2.1
  refine T2_ite ⟨fun z => h12.symm.trans z, fun z => h12.trans z⟩ (fun z z' => ?_) (fun z z' => ?_)
  · refine T2_suc (fun k => e_former_4 k _ _ _) (fun k => e_former_4 k _ _ _) ?_
    refine T2_suc (fun k => e_former_5 k _ _ _) (fun k => e_former_5 k _ _ _) ?_
    exact fo_ent hXC h60 hF hq hw hj hr hN1 hN2 z.symm z'.symm
  · have y1 : r1.1 = 1 := by
      rcases hr.2.2.2 with ⟨_, _, _, y | y⟩ | y
      · exact y.1
      · exact absurd y.1 z
      · exact absurd y.1 z
    refine T2_suc (fun k => e_former_5 k _ _ _) (fun k => e_former_5 k _ _ _) ?_
    exact fo_ent hXC h60 hF hq hw hj hr hN1 hN2 y1.symm (h12.symm.trans y1).symm
theorem fo_loop {f0 : Nat} (hE0 : PE T FN c) (hE1 : PE T FN (c + 1)) (hE2 : PE T FN (c + 2)) (hO : 1 ≤ O) (W7 : T 7 n = -1 ∨ WN T FN f0 0 (O - 1) 14 (K - m) lc (T 7 n)) (W8 : WN T FN f0 0 (O - 1) 14 (K - m) lc (T 8 n)) (hP : PC T FN O r K lc (c + 5) t w XC σ1) (hF : FoC T FN (O - 1) K lc n e0 m fu dp it σ1 σ2) : ∀ q, FoP (NmI T σ1 it 0 m) n c e0 m t w XC it σ1 σ2 q := by
  have h60 := PC_t60 hP
  have hXC := hP.2.1
  have hd13 := hP.2.2.2.2.1
  have hn := hF.1
  have hK := hF.2.2.2.2.2.1
  have h72 := hF.2.2.2.1.2.2.2.2.1
  intro q
  induction q with
  | zero =>
    intro j w' N1 N2 τ1 τ2 hq hj hN1 hN2 n4 o4 f1 f2 hG hI
    have := EI_w hI
    omega
  | succ q ih =>
    intro j w' N1 N2 τ1 τ2 hq hj hN1 hN2 n4 o4 f1 f2 hG hI
    have hw6 := EI_w hI
    -- the value
    have b2 : ∀ (w2 : Nat) (M1 M2 : Nat → Int32) (υ1 υ2 : MS), w' ≤ w2 → FoL n t e0 M1 → FoL n t e0 M2 → FI (NmI T σ1 it 0 m) e0 σ1 υ1 → FI (NmI T σ1 it 0 m) e0 σ2 υ2 → GIt e0 m it υ1 υ2 → EI (t + j) w2 XC υ1 υ2 → T2 (fun k => x_GV k (c + 3) 5 2 M1 υ1) (fun k => x_GV k (c + 3) 5 2 M2 υ2) (EQ (178000 + (c + 3)) t w XC σ1 σ2) := by
      intro w2 M1 M2 υ1 υ2 hw2 hM1 hM2 k1 k2 hG2 hJ
      have hw62 := EI_w hJ
      have v72 : υ1.1 72 = nI (e0 + m) := hG2.1
      have u72 : υ2.1 72 = nI (e0 + m) := (EI_x50 hJ).trans v72
      refine T2_suc (fun k => e_former_2 k _ _ _) (fun k => e_former_2 k _ _ _) ?_
      rw [hM1.1, hM2.1]
      refine T2_chk (n_in (by omega) (by omega)) (n_in (by omega) (by omega)) ?_
      rw [n_cl (p := n) (by omega), (FoC_tb hF k1 k2 (a := 8) (by omega) (by omega) (by omega)).1, (FoC_tb hF k1 k2 (a := 8) (by omega) (by omega) (by omega)).2]
      refine T2_od ?_
      have pc : PC T FN (O - 1) 14 (K - m) lc (c + 2) (t + j) w2 XC υ1 := PC_fi hP h72 (by omega) k1 v72 hO (by omega) (by omega) hw62 (by omega) (by omega) (by omega) (by omega)
      refine T2_ob (hE2 f0 (O - 1) 14 (K - m) lc (T 8 n) (t + j) w2 XC υ1 υ2 _ _ W8 pc hJ rfl rfl) (fun r1 r2 hr => ?_)
      obtain ⟨p1, p2, hr⟩ := hr
      have gg1 : FI (NmI T σ1 it 0 m) e0 σ1 r1.2 := FI_tr k1 (FI_fe p1 v72 (by omega) (by omega))
      have gg2 : FI (NmI T σ1 it 0 m) e0 σ2 r2.2 := FI_tr k2 (FI_fe p2 u72 (by omega) (by omega))
      have hG3 := GIt_fe hG2 (by omega) p1 p2
      have r72 : r1.2.1 72 = nI (e0 + m) := hG3.1
      have r72' : r2.2.1 72 = nI (e0 + m) := (p2.1 72 (by unfold AlS; omega) (by decide) (by decide) (by decide)).trans u72
      rcases hr with ⟨w3, hw3, hL⟩ | ⟨z1, z2⟩
      case inr =>
        refine T2_ite ⟨fun z => absurd z (EZ_e z1), fun z => absurd z (EZ_e z2)⟩ (fun z _ => absurd z (EZ_e z1)) (fun _ _ => ?_)
        exact fo_z3 hF gg1 gg2 (by omega) (EZ_mo z1 (by omega) (Nat.le_refl _)) (EZ_mo z2 (by omega) (Nat.le_refl _)) r72 r72' hM1 hM2
      have b3 : T2 (fun k => x_GV k (c + 3) 5 3 M1 r1.2) (fun k => x_GV k (c + 3) 5 3 M2 r2.2) (EQ (178000 + (c + 3)) t w XC σ1 σ2) := fo_3 (j := j + 1) hE0 hO hP hF ih (by omega) (by omega) hM1 hM2 gg1 gg2 hG3 hL
      obtain ⟨e1, e2⟩ := EI_e hL
      obtain ⟨s1, s2⟩ := EI_59 hL
      rw [e1, e2, s1, s2, n_sub1 (by omega)]
      refine T2_ite Iff.rfl (fun _ _ => ?_) (fun z _ => absurd rfl z)
      refine T2_chk (n_in3 (by omega) (by omega)) (n_in3 (by omega) (by omega)) ?_
      rw [(FoC_tb hF gg1 gg2 (a := 5) (by omega) (by omega) (by omega)).1, (FoC_tb hF gg1 gg2 (a := 5) (by omega) (by omega) (by omega)).2]
      refine T2_ite Iff.rfl (fun _ _ => ?_) (fun _ _ => b3)
      refine T2_chk (n_in (by omega) (by omega)) (n_in (by omega) (by omega)) ?_
      rw [n_cl (p := t + j) (by omega)]
      obtain ⟨gA, gB, vc⟩ := EI_top (i := t + j) (by omega) hL
      refine T2_ite (VC_c (c := 0) (by decide) vc) (fun _ _ => ?_) (fun _ _ => b3)
      refine T2_ob (T2_t (s_fail _ _) (s_fail _ _)) (fun v1 v2 hv => ?_)
      rw [hv.1, hv.2]
      obtain ⟨z1, z2⟩ := E_er (a := t) (b := 178000) (e := 3) hXC hL (by decide) (by decide) (by omega) (by omega)
      exact fo_z3 hF (FI_tr gg1 (FI_fe FE_er r72 (by omega) (by omega))) (FI_tr gg2 (FI_fe FE_er r72' (by omega) (by omega))) (by omega) z1 z2 ((mEr_s (by decide)).trans r72) ((mEr_s (by decide)).trans r72') hM1 hM2
    obtain ⟨e1, e2⟩ := EI_e hI
    have v72 : τ1.1 72 = nI (e0 + m) := hG.1
    have u72 : τ2.1 72 = nI (e0 + m) := (EI_x50 hI).trans v72
    refine T2_suc (fun k => e_former_1 k _ _ _) (fun k => e_former_1 k _ _ _) ?_
    rw [n4, o4, e1, e2, hN1.1, hN2.1]
    refine T2_ite Iff.rfl (fun z _ => absurd z (by decide)) (fun _ _ => ?_)
    refine T2_ite Iff.rfl (fun _ _ => ?_) (fun z _ => absurd rfl z)
    refine T2_chk (n_in (by omega) (by omega)) (n_in (by omega) (by omega)) ?_
    rw [n_cl (p := n) (by omega), (FoC_tb hF f1 f2 (a := 7) (by omega) (by omega) (by omega)).1, (FoC_tb hF f1 f2 (a := 7) (by omega) (by omega) (by omega)).2]
    refine T2_ite Iff.rfl (fun _ _ => b2 w' _ _ τ1 τ2 (Nat.le_refl _) hN1 hN2 f1 f2 hG hI) (fun z7 _ => ?_)
    refine T2_chk (n_in3 (by omega) (by omega)) (n_in3 (by omega) (by omega)) ?_
    refine T2_od ?_
    have pc : PC T FN (O - 1) 14 (K - m) lc (c + 1) (t + j) w' XC τ1 := PC_fi hP h72 (by omega) f1 v72 hO (by omega) (by omega) hw6 (by omega) (by omega) (by omega) (by omega)
    refine T2_ob (b_holds hE1 (W7.resolve_left z7) pc hI rfl rfl) (fun r1 r2 hr => ?_)
    obtain ⟨h12, p1, p2, hr⟩ := hr
    have gg1 : FI (NmI T σ1 it 0 m) e0 σ1 r1.2 := FI_tr f1 (FI_fe p1 v72 (by omega) (by omega))
    have gg2 : FI (NmI T σ1 it 0 m) e0 σ2 r2.2 := FI_tr f2 (FI_fe p2 u72 (by omega) (by omega))
    have hG3 := GIt_fe hG (by omega) p1 p2
    have r72 : r1.2.1 72 = nI (e0 + m) := hG3.1
    have r72' : r2.2.1 72 = nI (e0 + m) := (p2.1 72 (by unfold AlS; omega) (by decide) (by decide) (by decide)).trans u72
    rcases hr with ⟨w2, hw2, hJ⟩ | ⟨z1, z2, z0⟩
    · refine T2_ite ⟨fun z => h12.symm.trans z, fun z => h12.trans z⟩ (fun _ _ => ?_) (fun _ _ => ?_)
      · exact fo_3 (j := j) hE0 hO hP hF ih (by omega) (by omega) hN1 hN2 gg1 gg2 hG3 hJ
      · exact b2 w2 _ _ r1.2 r2.2 hw2 hN1 hN2 gg1 gg2 hG3 hJ
    · refine T2_ite ⟨fun z => h12.symm.trans z, fun z => h12.trans z⟩ (fun _ _ => ?_) (fun z _ => absurd z0 z)
      exact fo_z3 hF gg1 gg2 (by omega) (EZ_mo z1 (by omega) (Nat.le_refl _)) (EZ_mo z2 (by omega) (Nat.le_refl _)) r72 r72' hN1 hN2
/-- a former -/
theorem b_former {f0 : Nat} (hE0 : PE T FN c) (hE1 : PE T FN (c + 1)) (hE2 : PE T FN (c + 2)) (hn : (1 ≤ n ∧ n < LNo T % 70001)) (hO : 1 ≤ O) (hm : 1 ≤ m) (hmK : m ≤ K) (W6 : WN T FN f0 4 (O - 1) m K lc (T 6 n)) (W7 : T 7 n = -1 ∨ WN T FN f0 0 (O - 1) 14 (K - m) lc (T 7 n)) (W8 : WN T FN f0 0 (O - 1) 14 (K - m) lc (T 8 n)) (hP : PC T FN O r K lc (c + 5) t w XC σ1) (hI : EI t w XC σ1 σ2) {L1 L2 : Nat → Int32} (d1 : L1 1 = nI n) (d2 : L2 1 = nI n) : T2 (fun k => x_GV k (c + 3) 5 0 L1 σ1) (fun k => x_GV k (c + 3) 5 0 L2 σ2) (EQ (178000 + (c + 3)) t w XC σ1 σ2) := by
  obtain ⟨e0, fu, dp, it, hF⟩ := FoC_of hn hm hmK W6 hP hI
  have h60 := PC_t60 hP
  have hw6 := EI_w hI
  have hXC := hP.2.1
  have hK := hF.2.2.2.2.2.1
  have h72 := hF.2.2.2.1.2.2.2.2.1
  have h72' := hF.2.2.2.2.1.1.2.2.2.2.1
  obtain ⟨s1, s2⟩ := EI_59 hI
  refine T2_suc (fun k => e_former_0 k _ _ _) (fun k => e_former_0 k _ _ _) ?_
  rw [d1, d2, s1, s2, h72, h72']
  refine T2_chk (n_in (by omega) (by omega)) (n_in (by omega) (by omega)) ?_
  rw [n_cl (p := n) (by omega), hF.2.1.1 6 _ (by omega) (by omega) (by omega), hF.2.2.1.1 6 _ (by omega) (by omega) (by omega)]
  refine T2_od ?_
  refine T2_ob (b_goOn (N := NmI T σ1 it 0 m) (x := 1) (j0 := 0) (t := t) (w := w) hE0 hO hP h72 hK.1 hF.2.2.1 hm hF.2.2.2.2.2.2.2.1 (fun j hj a i z => ⟨j, Nat.zero_le _, hj, z⟩) (by omega) (Nat.le_refl _) (by omega) (Nat.zero_le _) (Or.inr ⟨rfl, hm⟩) FI_rf FI_rf ⟨h72, fun i hi => absurd hi (Nat.not_lt_zero i)⟩ hI rfl rfl (by exact hF.2.2.2.2.2.2.2.2) (by exact hF.2.2.2.2.2.2.2.2) rfl rfl) (fun r1 r2 hr => ?_)
  exact fo_ent (q := 60000) (j := 0) hXC h60 hF (fo_loop hE0 hE1 hE2 hO W7 W8 hP hF 60000) (by omega) (by omega) hr ⟨d1, rfl, rfl⟩ ⟨d2, rfl, rfl⟩ rfl rfl
end EFL
