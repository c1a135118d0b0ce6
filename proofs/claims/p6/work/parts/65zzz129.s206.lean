/-! Evaluation on both sides (reference): ranges. -/
section EBR
variable {T : Nat → Nat → Int32} {FN : Nat → Nat → Prop} {O r K d t w XC : Nat} {lc : Nat → Prop} {σ1 σ2 : MS}
theorem b_bounds (hSG : SGN) {n e f : Nat} (hE : PE T FN e) (hn : (1 ≤ n ∧ n < LNo T % 70001)) (hO : 1 ≤ O) (W6 : WN T FN f 0 (O - 1) 14 K lc (T 6 n)) (W7 : T 7 n = -1 ∨ WN T FN f 0 (O - 1) 14 K lc (T 7 n)) (W8 : WN T FN f 0 (O - 1) 14 K lc (T 8 n)) (hP : PC T FN O r K lc (e + 3) t w XC σ1) (hI : EI t w XC σ1 σ2) {L1 L2 : Nat → Int32} (d1 : L1 1 = nI n) (d2 : L2 1 = nI n) : T2 (fun k => x_GV k (e + 1) 1 0 L1 σ1) (fun k => x_GV k (e + 1) 1 0 L2 σ2) (EQ (178000 + (e + 1)) t w XC σ1 σ2) := by
  have ht := PC_t hP
  have hXC := hP.2.1
  have hd13 := hP.2.2.2.2.1
  have hS1 := hP.1
  have hS2 := EI_ST hI hS1
  have tb : ∀ (τ1 τ2 : MS), FE σ1 τ1 → FE σ2 τ2 → ∀ a i, 4 ≤ a → a ≤ 9 → (1 ≤ i ∧ i < LNo T % 70001) → τ1.2.2 a i = T a i ∧ τ2.2.2 a i = T a i := fun τ1 τ2 f1 f2 a i h1 h2 h3 => ⟨(STb_fe hS1 f1).1 a i h1 (by omega) ⟨fun _ => h3, fun z => by omega⟩, (STb_fe hS2 f2).1 a i h1 (by omega) ⟨fun _ => h3, fun z => by omega⟩⟩
  have b7 : ∀ (N1 N2 : Nat → Int32) (v1 v2 : MS), EQ (178000 + (e + 1)) t w XC σ1 σ2 (0, v1) (0, v2) → T2 (fun k => x_GV k (e + 1) 1 7 N1 v1) (fun k => x_GV k (e + 1) 1 7 N2 v2) (EQ (178000 + (e + 1)) t w XC σ1 σ2) := fun N1 N2 v1 v2 h => by
    refine T2_suc (fun k => e_bounds_7 k _ _ _) (fun k => e_bounds_7 k _ _ _) ?_
    exact T2_some h
  have ev : ∀ (z : Int32) (t' w' : Nat) (τ1 τ2 : MS) (M1 M2 : Nat → Int32), WN T FN f 0 (O - 1) 14 K lc z → FE σ1 τ1 → w ≤ w' → t' ≤ t + 2 → EI t' w' XC τ1 τ2 → M1 1 = z → M2 1 = z → T2 (fun k => x_GV k e 4 0 M1 τ1) (fun k => x_GV k e 4 0 M2 τ2) (EQ (178000 + e) t' w' XC τ1 τ2) := fun z t' w' τ1 τ2 M1 M2 hW f1 hw ht' hJ q1 q2 => hE f (O - 1) 14 K lc z t' w' XC τ1 τ2 M1 M2 hW (PC_in (PC_fe hP f1 hw (EI_w hJ)) hO (Nat.le_refl _) (by omega) (by omega) (by omega)) hJ q1 q2
  -- the range itself
  have b6 : ∀ (c w' : Nat) (N1 N2 : Nat → Int32) (ρ1 ρ2 : MS) (g1 : Nat → Prop) (l1 : List Nat) (B1 h1 X1 : Nat) (g2 : Nat → Prop) (l2 : List Nat) (B2 h2 X2 : Nat), ((N2 100 = 0 ∧ c = 2) ∨ (¬ N2 100 = 0 ∧ c = 3)) → N1 100 = N2 100 → N1 101 = N2 101 → w ≤ w' → FE σ1 ρ1 → FE σ2 ρ2 → EIx (t + c) w' XC ρ1 ρ2 g1 l1 B1 h1 X1 g2 l2 B2 h2 X2 → h1 + 79900 ≤ B1 + 870000 → h2 + 79900 ≤ B2 + 870000 → T2 (fun k => x_GV k (e + 1) 1 6 N1 ρ1) (fun k => x_GV k (e + 1) 1 6 N2 ρ2) (EQ (178000 + (e + 1)) t w XC σ1 σ2) := by
    intro c w' N1 N2 ρ1 ρ2 g1 l1 B1 h1 X1 g2 l2 B2 h2 X2 hc n100 n101 hw' f1 f2 hX rm1 rm2
    obtain ⟨a1, a2, aR, i1, i2, t1, q1, q2, w1, hw, x1, x2, ⟨ty1, ty2⟩, a, y1, y2⟩ := hX
    have al : ∀ j, AlS j → ρ2.1 j = ρ1.1 j := fun j h => (aR.2.2.1 j h).symm
    have t2 : ρ2.1 59 = nI (t + c) := (al 59 (by unfold AlS; omega)).trans t1
    have w2 : ρ2.1 57 = nI w' := (al 57 (by unfold AlS; omega)).trans w1
    have pl : PlE g1 g2 ρ1 ρ2 t c := fun i hi => aR.1 29 (t + i) (Or.inl ⟨rfl, by omega⟩) (by unfold VwR; omega)
    have m1 : MI t X1 g1 l1 B1 h1 ρ1 := MI_mo a1 (by omega)
    have m2 : MI t X2 g2 l2 B2 h2 ρ2 := MI_mo a2 (by omega)
    refine T2_suc (fun k => e_bounds_6 k _ _ _) (fun k => e_bounds_6 k _ _ _) ?_
    rw [n100, n101]
    refine T2_ob (T2_of (s_range (L := upd (upd (fun _ => 0) 1 (N2 101)) 2 (N2 100)) a1.1 q1 (by omega) hc t1 (PlE_1 pl)) (s_range (L := upd (upd (fun _ => 0) 1 (N2 101)) 2 (N2 100)) a2.1 q2 (by omega) hc t2 (PlE_2 pl)) (fun n' => Pm_wl (fun k => wl_range k _ _ _) (fun k => wl_range k _ _ _) (k_range a1.1 a2.1 q1 q2 (by omega) (by omega) (by omega) (hSG _ _ _ _ _ a1.1) (hSG _ _ _ _ _ a2.1) rfl rfl hc t1 t2 pl))) (fun s1 s2 hs => ?_)
    obtain ⟨⟨hq, wl1, wl2⟩, o1, o2⟩ := hs
    have o1' := o1
    have o2' := o2
    obtain ⟨_, _, _, _, fw1, _⟩ := o1'
    obtain ⟨_, _, _, _, fw2, _⟩ := o2'
    have p57 : s1.2.1 57 = s2.2.1 57 := by rw [fw1.1 57 (by decide), fw2.1 57 (by decide), w1, w2]
    have p95 := fw1.1 95 (by decide)
    have p95' := fw2.1 95 (by decide)
    exact E_ans m1 m2 (RA_mo (by omega) aR) i1 i2 (by omega) ty1 ty2 ⟨a, p95.trans y1, y2⟩ (p95.trans ((aR.2.2.1 95 (by unfold AlS; omega)).trans p95'.symm)) (SO_of (W := 1001) (by omega) m1 w1 hw.1 x1 o1) (SO_of (W := 1001) (by omega) m2 w2 hw.1 x2 o2) ⟨KR_of (c := 8600) (VQ_54 o1) (VQ_54 o2) (by omega) hq p57, by rw [wl1, wl2]; exact aR.2.2.2⟩ (fun v1 v2 h1 h2 h => b7 _ _ _ _ (EQ_ans f1 f2 hw' (by omega) h1 h2 h))
  have b2 : ∀ (c w' : Nat) (N1 N2 : Nat → Int32) (τ1 τ2 : MS), (T 7 n = -1 → c = 2) → (¬ T 7 n = -1 → c = 3) → N1 1 = nI n → N2 1 = nI n → FE σ1 τ1 → FE σ2 τ2 → ((w ≤ w' ∧ EI (t + c) w' XC τ1 τ2) ∨ (EZ t (178000 + e) τ1 ∧ EZ t (178000 + e) τ2)) → T2 (fun k => x_GV k (e + 1) 1 2 N1 τ1) (fun k => x_GV k (e + 1) 1 2 N2 τ2) (EQ (178000 + (e + 1)) t w XC σ1 σ2) := by
    intro c w' N1 N2 τ1 τ2 hc2 hc3 n1 o1 f1 f2 h
    have hcb : c ≤ 3 := by
      by_cases z : T 7 n = -1
      · have := hc2 z; omega
      · have := hc3 z; omega
    refine T2_suc (fun k => e_bounds_2 k _ _ _) (fun k => e_bounds_2 k _ _ _) ?_
    rcases h with ⟨hw', hJ⟩ | ⟨z1, z2⟩
    case inr =>
      refine T2_ite ⟨fun z => absurd z (EZ_e z1), fun z => absurd z (EZ_e z2)⟩ (fun z _ => absurd z (EZ_e z1)) (fun _ _ => ?_)
      exact b7 _ _ _ _ ⟨f1, f2, Or.inr ⟨EZ_mo z1 (Nat.le_refl _) (by omega), EZ_mo z2 (Nat.le_refl _) (by omega)⟩⟩
    obtain ⟨e1, e2⟩ := EI_e hJ
    rw [e1, e2]
    refine T2_ite Iff.rfl (fun _ _ => ?_) (fun z _ => absurd rfl z)
    refine T2_ob (E_sw hXC (by omega) hJ) (fun r1 r2 hr => ?_)
    obtain ⟨k1, k2, g1, l1, B1, h1, X1, g2, l2, B2, h2, X2, hX, rm1, rm2⟩ := hr
    have ff1 := FE_tr f1 k1
    have ff2 := FE_tr f2 k2
    have tbl := tb _ _ ff1 ff2
    have b4 : ∀ M1 M2 : Nat → Int32, M1 1 = nI n → M2 1 = nI n → M1 100 = M2 100 → T2 (fun k => x_GV k (e + 1) 1 4 M1 r1.2) (fun k => x_GV k (e + 1) 1 4 M2 r2.2) (EQ (178000 + (e + 1)) t w XC σ1 σ2) := by
      intro M1 M2 j1 j2 j100
      refine T2_suc (fun k => e_bounds_4 k _ _ _) (fun k => e_bounds_4 k _ _ _) ?_
      rw [j1, j2, j100]
      refine T2_chk (n_in (by omega) (by omega)) (n_in (by omega) (by omega)) ?_
      rw [n_cl (p := n) (by omega), (tbl 7 _ (by omega) (by omega) (by omega)).1, (tbl 7 _ (by omega) (by omega) (by omega)).2]
      refine T2_ite Iff.rfl (fun z _ => ?_) (fun z _ => ?_)
      · refine T2_suc (fun k => e_bounds_5 k _ _ _) (fun k => e_bounds_5 k _ _ _) ?_
        exact b6 c w' _ _ r1.2 r2.2 g1 l1 B1 h1 X1 g2 l2 B2 h2 X2 (Or.inl ⟨rfl, hc2 z⟩) rfl rfl hw' ff1 ff2 hX rm1 rm2
      · exact b6 c w' _ _ r1.2 r2.2 g1 l1 B1 h1 X1 g2 l2 B2 h2 X2 (Or.inr ⟨show ¬ (1 : Int32) = 0 by decide, hc3 z⟩) rfl rfl hw' ff1 ff2 hX rm1 rm2
    rw [n1, o1]
    refine T2_chk (n_in (by omega) (by omega)) (n_in (by omega) (by omega)) ?_
    rw [n_cl (p := n) (by omega), (tbl 5 _ (by omega) (by omega) (by omega)).1, (tbl 5 _ (by omega) (by omega) (by omega)).2]
    refine T2_ite Iff.rfl (fun _ _ => b4 _ _ n1 o1 rfl) (fun _ _ => ?_)
    refine T2_suc (fun k => e_bounds_3 k _ _ _) (fun k => e_bounds_3 k _ _ _) ?_
    exact b4 _ _ n1 o1 rfl
  have b1 : ∀ (j w' : Nat) (N1 N2 : Nat → Int32) (τ1 τ2 : MS), (T 7 n = -1 → j = 1) → (¬ T 7 n = -1 → j = 2) → N1 1 = nI n → N2 1 = nI n → FE σ1 τ1 → FE σ2 τ2 → ((w ≤ w' ∧ EI (t + j) w' XC τ1 τ2) ∨ (EZ t (178000 + e) τ1 ∧ EZ t (178000 + e) τ2)) → T2 (fun k => x_GV k (e + 1) 1 1 N1 τ1) (fun k => x_GV k (e + 1) 1 1 N2 τ2) (EQ (178000 + (e + 1)) t w XC σ1 σ2) := by
    intro j w' N1 N2 τ1 τ2 hj1 hj2 n1 o1 f1 f2 h
    have hjb : j ≤ 2 := by
      by_cases z : T 7 n = -1
      · have := hj1 z; omega
      · have := hj2 z; omega
    refine T2_suc (fun k => e_bounds_1 k _ _ _) (fun k => e_bounds_1 k _ _ _) ?_
    rcases h with ⟨hw', hJ⟩ | ⟨z1, z2⟩
    case inr =>
      refine T2_ite ⟨fun z => absurd z (EZ_e z1), fun z => absurd z (EZ_e z2)⟩ (fun z _ => absurd z (EZ_e z1)) (fun _ _ => ?_)
      exact b2 (j + 1) w _ _ τ1 τ2 (fun z => by have := hj1 z; omega) (fun z => by have := hj2 z; omega) n1 o1 f1 f2 (Or.inr ⟨z1, z2⟩)
    obtain ⟨e1, e2⟩ := EI_e hJ
    rw [e1, e2, n1, o1]
    refine T2_ite Iff.rfl (fun _ _ => ?_) (fun z _ => absurd rfl z)
    refine T2_chk (n_in (by omega) (by omega)) (n_in (by omega) (by omega)) ?_
    rw [n_cl (p := n) (by omega), (tb _ _ f1 f2 8 _ (by omega) (by omega) (by omega)).1, (tb _ _ f1 f2 8 _ (by omega) (by omega) (by omega)).2]
    refine T2_od ?_
    refine T2_ob (ev (T 8 n) (t + j) w' τ1 τ2 _ _ W8 f1 hw' (by omega) hJ rfl rfl) (fun r1 r2 hr => ?_)
    obtain ⟨k1, k2, hr⟩ := hr
    rcases hr with ⟨w3, hw3, hJ3⟩ | ⟨z1, z2⟩
    · exact b2 (j + 1) w3 _ _ r1.2 r2.2 (fun z => by have := hj1 z; omega) (fun z => by have := hj2 z; omega) n1 o1 (FE_tr f1 k1) (FE_tr f2 k2) (Or.inl ⟨by omega, hJ3⟩)
    · exact b2 (j + 1) w _ _ r1.2 r2.2 (fun z => by have := hj1 z; omega) (fun z => by have := hj2 z; omega) n1 o1 (FE_tr f1 k1) (FE_tr f2 k2) (Or.inr ⟨EZ_mo z1 (by omega) (Nat.le_refl _), EZ_mo z2 (by omega) (Nat.le_refl _)⟩)
  refine T2_suc (fun k => e_bounds_0 k _ _ _) (fun k => e_bounds_0 k _ _ _) ?_
  rw [d1, d2]
  refine T2_chk (n_in (by omega) (by omega)) (n_in (by omega) (by omega)) ?_
  rw [n_cl (p := n) (by omega), hS1.1 6 _ (by omega) (by omega) (by omega), hS2.1 6 _ (by omega) (by omega) (by omega)]
  refine T2_od ?_
  refine T2_ob (ev (T 6 n) t w σ1 σ2 _ _ W6 FE_rf (Nat.le_refl _) (by omega) hI rfl rfl) (fun r1 r2 hr => ?_)
  obtain ⟨f1, f2, hr⟩ := hr
  refine T2_chk (n_in3 (by omega) (by omega)) (n_in3 (by omega) (by omega)) ?_
  rw [(tb _ _ f1 f2 7 _ (by omega) (by omega) (by omega)).1, (tb _ _ f1 f2 7 _ (by omega) (by omega) (by omega)).2]
  refine T2_ite Iff.rfl (fun z7 _ => ?_) (fun z7 _ => ?_)
  · rcases hr with ⟨w2, hw2, hJ⟩ | ⟨z1, z2⟩
    · exact b1 1 w2 _ _ r1.2 r2.2 (fun _ => rfl) (fun z => absurd z7 z) d1 d2 f1 f2 (Or.inl ⟨hw2, hJ⟩)
    · exact b1 1 w _ _ r1.2 r2.2 (fun _ => rfl) (fun z => absurd z7 z) d1 d2 f1 f2 (Or.inr ⟨z1, z2⟩)
  · rcases hr with ⟨w2, hw2, hJ⟩ | ⟨z1, z2⟩
    · obtain ⟨e1, e2⟩ := EI_e hJ
      rw [e1, e2]
      refine T2_ite Iff.rfl (fun _ _ => ?_) (fun z _ => absurd rfl z)
      refine T2_chk (n_in3 (by omega) (by omega)) (n_in3 (by omega) (by omega)) ?_
      refine T2_od ?_
      refine T2_ob (ev (T 7 n) (t + 1) w2 r1.2 r2.2 _ _ (W7.resolve_left z7) f1 hw2 (by omega) hJ rfl rfl) (fun s1 s2 hs => ?_)
      obtain ⟨k1, k2, hs⟩ := hs
      rcases hs with ⟨w3, hw3, hJ3⟩ | ⟨z1, z2⟩
      · exact b1 2 w3 _ _ s1.2 s2.2 (fun z => absurd z z7) (fun _ => rfl) d1 d2 (FE_tr f1 k1) (FE_tr f2 k2) (Or.inl ⟨by omega, hJ3⟩)
      · exact b1 2 w _ _ s1.2 s2.2 (fun z => absurd z z7) (fun _ => rfl) d1 d2 (FE_tr f1 k1) (FE_tr f2 k2) (Or.inr ⟨EZ_mo z1 (by omega) (Nat.le_refl _), EZ_mo z2 (by omega) (Nat.le_refl _)⟩)
    · refine T2_ite ⟨fun z => absurd z (EZ_e z1), fun z => absurd z (EZ_e z2)⟩ (fun z _ => absurd z (EZ_e z1)) (fun _ _ => ?_)
      exact b1 2 w _ _ r1.2 r2.2 (fun z => absurd z z7) (fun _ => rfl) d1 d2 f1 f2 (Or.inr ⟨z1, z2⟩)
end EBR
