/-! Evaluation on both sides (reference): formers. -/
/-- locals of a former -/
def FoL (n t e0 : Nat) (N : Nat → Int32) : Prop := N 1 = nI n ∧ N 2 = nI t ∧ N 3 = nI e0
/-- what a former, a quantifier stands on -/
def FoC (T : Nat → Nat → Int32) (FN : Nat → Nat → Prop) (O K : Nat) (lc : Nat → Prop) (n e0 m fu dp : Nat) (it : Nat → Nat) (σ1 σ2 : MS) : Prop := (1 ≤ n ∧ n < LNo T % 70001) ∧ STb T FN σ1 ∧ STb T FN σ2 ∧ Cx lc fu dp e0 σ1 ∧ (Cx lc fu dp e0 σ2 ∧ σ2.1 69 = σ1.1 69 ∧ σ2.2.2 30 1 = σ1.2.2 30 1) ∧ (e0 + K ≤ 1260 ∧ m ≤ K) ∧ 1 ≤ m ∧ Its T FN O m K lc it ∧ T 6 n = nI (it 0)
section EFO
variable {T : Nat → Nat → Int32} {FN : Nat → Nat → Prop} {O r K d t u w XC : Nat} {lc : Nat → Prop} {σ σ1 σ2 τ τ1 τ2 ρ : MS} {n c m e0 fu dp : Nat} {it : Nat → Nat} {N : Nat → Nat → Prop}
theorem PC_t60 (h : PC T FN O r K lc d t w XC σ) : t + (60000 - w) ≤ 174000 := by
  obtain ⟨_, _, _, _, _, _, hw, fu, dp, e, cc, _, ht, _⟩ := h
  have := cc.2.2.2.1
  omega
theorem FoC_of {f0 : Nat} (hn : (1 ≤ n ∧ n < LNo T % 70001)) (hm : 1 ≤ m) (hmK : m ≤ K) (W6 : WN T FN f0 4 O m K lc (T 6 n)) {O' : Nat} (hP : PC T FN O' r K lc d t w XC σ1) (hI : EI t w XC σ1 σ2) : ∃ e0 fu dp it, FoC T FN O K lc n e0 m fu dp it σ1 σ2 := by
  rcases WN_it f0 m K _ W6 with ⟨z, _⟩ | ⟨_, it, x6, hIt⟩
  · omega
  obtain ⟨hS1, _, _, _, _, _, _, fu, dp, e, cc, ce, _⟩ := hP
  have := cc.2.1
  have hS2 := EI_ST hI hS1
  obtain ⟨_, _, _, _, _, _, _, _, _, _, hX⟩ := hI
  exact ⟨e, fu, dp, it, hn, hS1, hS2, cc, ⟨Cx_ra hX.2.2.1 cc, (hX.2.2.1.2.2.1 69 (by unfold AlS; omega)).symm, (hX.2.2.1.2.1 30 1 (by unfold AlR; omega) (by unfold Zn; omega) (InA_4 (by omega))).symm⟩, ⟨by omega, hmK⟩, hm, hIt, x6⟩
theorem FoC_tb (hF : FoC T FN O K lc n e0 m fu dp it σ1 σ2) (f1 : FI N e0 σ1 τ1) (f2 : FI N e0 σ2 τ2) {a i : Nat} (h1 : 4 ≤ a) (h2 : a ≤ 9) (h3 : (1 ≤ i ∧ i < LNo T % 70001)) : τ1.2.2 a i = T a i ∧ τ2.2.2 a i = T a i := ⟨(STb_fi hF.2.1 f1).1 a _ h1 (by omega) ⟨fun _ => h3, fun z => by omega⟩, (STb_fi hF.2.2.1 f2).1 a _ h1 (by omega) ⟨fun _ => h3, fun z => by omega⟩⟩
/-- iterators are left: back to the frame of an evaluation -/
theorem FE_back (hC : Cx lc fu dp e0 σ) (h4 : e0 ≤ 4000) (f : FI N e0 σ τ) (k : FE (mSc τ 72 (nI e0)) ρ) (hz : ∀ a i, N a i → ρ.2.2 a i = 0 ∧ NU σ a i) : FE σ ρ := by
  have p72 : (mSc τ 72 (nI e0)).1 72 = nI e0 := rfl
  have h72 := hC.2.2.2.2.1
  refine FE_fi (FI_tr (FI_tr f FI_72) (FI_fe k p72 h4 (Nat.le_refl _))) hz h72 h4 ?_
  rw [k.1 72 (by unfold AlS; omega) (by decide) (by decide) (by decide), p72, h72]
theorem NmI_fi {a i : Nat} (f : FI N e0 σ ρ) : NmI T (mSc ρ 72 (nI e0)) it 0 m a i ↔ NmI T σ it 0 m a i := by
  constructor
  · rintro ⟨j, j1, j2, h⟩; exact ⟨j, j1, j2, (NmP_fi (FI_tr f (FI_72 (x := nI e0)))).mp h⟩
  · rintro ⟨j, j1, j2, h⟩; exact ⟨j, j1, j2, (NmP_fi (FI_tr f (FI_72 (x := nI e0)))).mpr h⟩
theorem NmI_2 (hF : FoC T FN O K lc n e0 m fu dp it σ1 σ2) {a i : Nat} : NmI T σ2 it 0 m a i ↔ NmI T σ1 it 0 m a i := by
  obtain ⟨hn, hS1, hS2, hC1, ⟨hC2, h69, h30⟩, hK, hm, hIt, x6⟩ := hF
  have h67 : σ2.1 67 = σ1.1 67 := hC2.1.trans hC1.1.symm
  constructor
  · rintro ⟨j, j1, j2, h⟩; exact ⟨j, j1, j2, (NmP_c h69 h67 h30).mp h⟩
  · rintro ⟨j, j1, j2, h⟩; exact ⟨j, j1, j2, (NmP_c h69 h67 h30).mpr h⟩
/-- the iterators are closed, their names cleared: both with an error -/
theorem z_close {b : Nat} (hF : FoC T FN O K lc n e0 m fu dp it σ1 σ2) (f1 : FI (NmI T σ1 it 0 m) e0 σ1 τ1) (f2 : FI (NmI T σ1 it 0 m) e0 σ2 τ2) (z1 : EZ t b τ1) (z2 : EZ t b τ2) (y1 : ∃ e1, e0 ≤ e1 ∧ e1 ≤ 4000 ∧ τ1.1 72 = nI e1) (y2 : ∃ e1, e0 ≤ e1 ∧ e1 ≤ 4000 ∧ τ2.1 72 = nI e1) {L1 L2 : Nat → Int32} (d1 : L1 1 = nI (it 0)) (d2 : L2 1 = nI (it 0)) : T2 (fun k => x_clear k 0 L1 (mSc τ1 72 (nI e0))) (fun k => x_clear k 0 L2 (mSc τ2 72 (nI e0))) (fun r1 r2 => FE σ1 r1.2 ∧ FE σ2 r2.2 ∧ EZ t b r1.2 ∧ EZ t b r2.2) := by
  have hF0 := hF
  obtain ⟨hn, hS1, hS2, hC1, ⟨hC2, h69, h30⟩, hK, hm, hIt, x6⟩ := hF
  obtain ⟨ea, a1, a2, a3⟩ := y1
  obtain ⟨eb, b1, b2, b3⟩ := y2
  refine T2_mono (T2_t (z_clear (σ := mSc τ1 72 (nI e0)) (STb_fi hS1 (FI_tr f1 FI_72)) (Cx_fi (e' := e0) hC1 (FI_tr f1 FI_72) rfl) hm hIt (EZ_72 z1 a3 a2 a1) d1) (z_clear (σ := mSc τ2 72 (nI e0)) (STb_fi hS2 (FI_tr f2 FI_72)) (Cx_fi (e' := e0) hC2 (FI_tr f2 FI_72) rfl) hm hIt (EZ_72 z2 b3 b2 b1) d2)) (fun r1 r2 hr => ?_)
  refine ⟨FE_back hC1 (by omega) f1 hr.1.1 (fun a i z => ⟨hr.1.2.2 a i ((NmI_fi f1).mpr z), NmI_NU hC1 hIt z⟩), FE_back hC2 (by omega) f2 hr.2.1 (fun a i z => ?_), hr.1.2.1, hr.2.2.1⟩
  have z' := (NmI_2 hF0).mpr z
  exact ⟨hr.2.2.2 a i ((NmI_fi f2).mpr z'), NmI_NU hC2 hIt z'⟩
/-- the same without one -/
theorem E_close (hF : FoC T FN O K lc n e0 m fu dp it σ1 σ2) (f1 : FI (NmI T σ1 it 0 m) e0 σ1 τ1) (f2 : FI (NmI T σ1 it 0 m) e0 σ2 τ2) (y1 : ∃ e1, e0 ≤ e1 ∧ e1 ≤ 4000 ∧ τ1.1 72 = nI e1) (hI : EI t w XC τ1 τ2) {L1 L2 : Nat → Int32} (d1 : L1 1 = nI (it 0)) (d2 : L2 1 = nI (it 0)) : T2 (fun k => x_clear k 0 L1 (mSc τ1 72 (nI e0))) (fun k => x_clear k 0 L2 (mSc τ2 72 (nI e0))) (fun r1 r2 => FE σ1 r1.2 ∧ FE σ2 r2.2 ∧ (∀ j, j ≠ 72 → r1.2.1 j = τ1.1 j) ∧ (∀ j, j ≠ 72 → r2.2.1 j = τ2.1 j) ∧ EI t w XC r1.2 r2.2) := by
  have hF0 := hF
  obtain ⟨hn, hS1, hS2, hC1, ⟨hC2, h69, h30⟩, hK, hm, hIt, x6⟩ := hF
  obtain ⟨ea, a1, a2, a3⟩ := y1
  refine T2_mono (E_clear (STb_fi hS1 (FI_tr f1 FI_72)) (EI_72 hI a3 a2 a1) (Cx_fi (e' := e0) hC1 (FI_tr f1 FI_72) rfl) hm hIt d1 d2) (fun r1 r2 hr => ?_)
  obtain ⟨k1, k2, s1, s2, hJ, hz⟩ := hr
  refine ⟨FE_back hC1 (by omega) f1 k1 (fun a i z => ⟨(hz a i ((NmI_fi f1).mpr z)).1, NmI_NU hC1 hIt z⟩), FE_back hC2 (by omega) f2 k2 (fun a i z => ⟨(hz a i ((NmI_fi f1).mpr z)).2, NmI_NU hC2 hIt ((NmI_2 hF0).mpr z)⟩), fun j hj => ?_, fun j hj => ?_, hJ⟩
  · rw [s1]; exact upd_other hj
  · rw [s2]; exact upd_other hj
/-- a former's end, with an error -/
theorem b_fendZ {b : Nat} (hF : FoC T FN O K lc n e0 m fu dp it σ1 σ2) (f1 : FI (NmI T σ1 it 0 m) e0 σ1 τ1) (f2 : FI (NmI T σ1 it 0 m) e0 σ2 τ2) (hb : b ≤ 178000 + (c + 3)) (z1 : EZ t b τ1) (z2 : EZ t b τ2) (y1 : ∃ e1, e0 ≤ e1 ∧ e1 ≤ 4000 ∧ τ1.1 72 = nI e1) (y2 : ∃ e1, e0 ≤ e1 ∧ e1 ≤ 4000 ∧ τ2.1 72 = nI e1) {u0 : Nat} {N1 N2 : Nat → Int32} (hN1 : FoL n u0 e0 N1) (hN2 : FoL n u0 e0 N2) : T2 (fun k => x_GV k (c + 3) 5 6 N1 τ1) (fun k => x_GV k (c + 3) 5 6 N2 τ2) (EQ (178000 + (c + 3)) t w XC σ1 σ2) := by
  have hn := hF.1
  refine T2_suc (fun k => e_former_6 k _ _ _) (fun k => e_former_6 k _ _ _) ?_
  rw [hN1.2.2, hN2.2.2]
  show T2 (fun k => x_GV k (c + 3) 5 7 N1 (mSc τ1 72 (nI e0))) (fun k => x_GV k (c + 3) 5 7 N2 (mSc τ2 72 (nI e0))) _
  refine T2_suc (fun k => e_former_7 k _ _ _) (fun k => e_former_7 k _ _ _) ?_
  rw [hN1.1, hN2.1]
  refine T2_chk (n_in (by omega) (by omega)) (n_in (by omega) (by omega)) ?_
  rw [n_cl (p := n) (by omega), (FoC_tb hF (FI_tr f1 (FI_72 (x := nI e0))) (FI_tr f2 (FI_72 (x := nI e0))) (a := 6) (by omega) (by omega) (by omega)).1, (FoC_tb hF (FI_tr f1 (FI_72 (x := nI e0))) (FI_tr f2 (FI_72 (x := nI e0))) (a := 6) (by omega) (by omega) (by omega)).2]
  refine T2_ob (z_close hF f1 f2 z1 z2 y1 y2 hF.2.2.2.2.2.2.2.2 hF.2.2.2.2.2.2.2.2) (fun r1 r2 hr => ?_)
  obtain ⟨k1, k2, v1, v2⟩ := hr
  refine T2_ite ⟨fun z => absurd z (EZ_e v1), fun z => absurd z (EZ_e v2)⟩ (fun z _ => absurd z (EZ_e v1)) (fun _ _ => ?_)
  refine T2_suc (fun k => e_former_10 k _ _ _) (fun k => e_former_10 k _ _ _) ?_
  exact T2_some ⟨k1, k2, Or.inr ⟨EZ_mo v1 (Nat.le_refl _) hb, EZ_mo v2 (Nat.le_refl _) hb⟩⟩
/-- a former's end: the values become a set, a tuple -/
theorem b_fend {w' j : Nat} (hXC : XC ≤ 408500) (hF : FoC T FN O K lc n e0 m fu dp it σ1 σ2) (ht : t + j ≤ 174000) (hj : j ≤ 60000) (hw' : w ≤ w') (f1 : FI (NmI T σ1 it 0 m) e0 σ1 τ1) (f2 : FI (NmI T σ1 it 0 m) e0 σ2 τ2) (q72 : τ1.1 72 = nI e0) (rm1 : Rm 79900 τ1) (rm2 : Rm 79900 τ2) (hI : EI (t + j) w' XC τ1 τ2) {N1 N2 : Nat → Int32} (hN1 : FoL n t e0 N1) (hN2 : FoL n t e0 N2) : T2 (fun k => x_GV k (c + 3) 5 6 N1 τ1) (fun k => x_GV k (c + 3) 5 6 N2 τ2) (EQ (178000 + (c + 3)) t w XC σ1 σ2) := by
  have hn := hF.1
  have he0 := hF.2.2.2.2.2.1
  refine T2_suc (fun k => e_former_6 k _ _ _) (fun k => e_former_6 k _ _ _) ?_
  rw [hN1.2.2, hN2.2.2]
  show T2 (fun k => x_GV k (c + 3) 5 7 N1 (mSc τ1 72 (nI e0))) (fun k => x_GV k (c + 3) 5 7 N2 (mSc τ2 72 (nI e0))) _
  refine T2_suc (fun k => e_former_7 k _ _ _) (fun k => e_former_7 k _ _ _) ?_
  rw [hN1.1, hN2.1, hN1.2.1, hN2.2.1]
  refine T2_chk (n_in (by omega) (by omega)) (n_in (by omega) (by omega)) ?_
  rw [n_cl (p := n) (by omega), (FoC_tb hF (FI_tr f1 (FI_72 (x := nI e0))) (FI_tr f2 (FI_72 (x := nI e0))) (a := 6) (by omega) (by omega) (by omega)).1, (FoC_tb hF (FI_tr f1 (FI_72 (x := nI e0))) (FI_tr f2 (FI_72 (x := nI e0))) (a := 6) (by omega) (by omega) (by omega)).2]
  refine T2_ob (E_close hF f1 f2 ⟨e0, by omega, by omega, q72⟩ hI hF.2.2.2.2.2.2.2.2 hF.2.2.2.2.2.2.2.2) (fun r1 r2 hr => ?_)
  obtain ⟨F1, F2, s1, s2, hK⟩ := hr
  obtain ⟨e1, e2⟩ := EI_e hK
  have rm1' : Rm 79900 r1.2 := Rm_c (s1 54 (by decide)) (s1 55 (by decide)) rm1
  have rm2' : Rm 79900 r2.2 := Rm_c (s2 54 (by decide)) (s2 55 (by decide)) rm2
  rw [e1, e2]
  refine T2_ite Iff.rfl (fun _ _ => ?_) (fun z _ => absurd rfl z)
  refine T2_chk (n_in3 (by omega) (by omega)) (n_in3 (by omega) (by omega)) ?_
  rw [(STb_fe hF.2.1 F1).1 5 _ (by omega) (by omega) (by omega), (STb_fe hF.2.2.1 F2).1 5 _ (by omega) (by omega) (by omega)]
  obtain ⟨g1, l1, B1, h1, X1, g2, l2, B2, h2, X2, hX⟩ := hK
  obtain ⟨a1, a2, aR, i1, i2, t1, q1, q2, w1, hw, x1, x2, ⟨ty1, ty2⟩, a, y1, y2⟩ := hX
  have hh1 := Rm_h a1.1 rm1'
  have hh2 := Rm_h a2.1 rm2'
  have al : ∀ j, AlS j → r2.2.1 j = r1.2.1 j := fun j h => (aR.2.2.1 j h).symm
  have t2 : r2.2.1 59 = nI (t + j) := (al 59 (by unfold AlS; omega)).trans t1
  have w2 : r2.2.1 57 = nI w' := (al 57 (by unfold AlS; omega)).trans w1
  have pl : PlE g1 g2 r1.2 r2.2 t j := fun i hi => aR.1 29 (t + i) (Or.inl ⟨rfl, by omega⟩) (by unfold VwR; omega)
  have m1 : MI t X1 g1 l1 B1 h1 r1.2 := MI_mo a1 (by omega)
  have m2 : MI t X2 g2 l2 B2 h2 r2.2 := MI_mo a2 (by omega)
  have fin : ∀ (M1 M2 : Nat → Int32) (v1 v2 : Int32 × MS), M1 100 = v1.1 → M2 100 = v2.1 → VO g1 B1 h1 t r1.2 v1 → VO g2 B2 h2 t r2.2 v2 → KQ h1 h2 (4 + j) v1 v2 → v1.2.2.1 = r1.2.2.1 → v2.2.2.1 = r2.2.2.1 → T2 (fun k => x_GV k (c + 3) 5 9 M1 v1.2) (fun k => x_GV k (c + 3) 5 9 M2 v2.2) (EQ (178000 + (c + 3)) t w XC σ1 σ2) := by
    intro M1 M2 v1 v2 p1 p2 o1 o2 hq wl1 wl2
    refine T2_suc (fun k => e_former_9 k _ _ _) (fun k => e_former_9 k _ _ _) ?_
    rw [p1, p2]
    have o1' := o1
    have o2'' := o2
    obtain ⟨_, _, _, _, fw1, _⟩ := o1'
    obtain ⟨_, _, _, _, fw2, _⟩ := o2''
    have p57 : v1.2.1 57 = v2.2.1 57 := by rw [fw1.1 57 (by decide), fw2.1 57 (by decide), w1, w2]
    have p95 := fw1.1 95 (by decide)
    have p95' := fw2.1 95 (by decide)
    refine E_ans m1 m2 (RA_mo (by omega) aR) i1 i2 (by omega) ty1 ty2 ⟨a, p95.trans y1, y2⟩ (p95.trans ((aR.2.2.1 95 (by unfold AlS; omega)).trans p95'.symm)) (SO_of (W := 0) (by omega) m1 w1 hw.1 x1 (VQ_of o1)) (SO_of (W := 0) (by omega) m2 w2 hw.1 x2 (VQ_of o2)) ⟨KR_of (c := 8600) (VO_54 o1) (VO_54 o2) (by omega) hq p57, by rw [wl1, wl2]; exact aR.2.2.2⟩ (fun u1 u2 h1 h2 h => ?_)
    refine T2_suc (fun k => e_former_10 k _ _ _) (fun k => e_former_10 k _ _ _) ?_
    exact T2_some (EQ_ans F1 F2 hw' (by omega) h1 h2 h)
  refine T2_ite Iff.rfl (fun _ _ => ?_) (fun _ _ => ?_)
  · refine T2_ob (T2_of (s_setOf (L := upd (fun _ => 0) 1 (nI t)) a1.1 ⟨0, q1, by decide⟩ t1 (by omega) (by omega) (PlE_1 pl) rfl) (s_setOf (L := upd (fun _ => 0) 1 (nI t)) a2.1 ⟨0, q2, by decide⟩ t2 (by omega) (by omega) (PlE_2 pl) rfl) (fun n' => Pm_wl (fun k => wl_setOf k _ _ _) (fun k => wl_setOf k _ _ _) (k_setOf a1.1 a2.1 q1 q2 t1 t2 (by omega) (by omega) (by omega) (by omega) pl rfl rfl))) (fun v1 v2 hs => ?_)
    obtain ⟨⟨hq, wl1, wl2⟩, o1, o2⟩ := hs
    exact fin _ _ v1 v2 rfl rfl o1 o2 hq wl1 wl2
  · refine T2_suc (fun k => e_former_8 k _ _ _) (fun k => e_former_8 k _ _ _) ?_
    rw [hN1.2.1, hN2.2.1]
    refine T2_ob (T2_of (s_tupleOf (L := upd (fun _ => 0) 1 (nI t)) a1.1 ⟨0, q1, by decide⟩ t1 (by omega) (PlE_1 pl) rfl) (s_tupleOf (L := upd (fun _ => 0) 1 (nI t)) a2.1 ⟨0, q2, by decide⟩ t2 (by omega) (PlE_2 pl) rfl) (fun n' => Pm_wl (fun k => wl_tupleOf k _ _ _) (fun k => wl_tupleOf k _ _ _) (k_tupleOf a1.1 a2.1 q1 q2 t1 t2 (by omega) (by omega) (by omega) pl rfl rfl))) (fun v1 v2 hs => ?_)
    obtain ⟨⟨hq, wl1, wl2⟩, o1, o2⟩ := hs
    exact fin _ _ v1 v2 rfl rfl o1 o2 hq wl1 wl2
end EFO
