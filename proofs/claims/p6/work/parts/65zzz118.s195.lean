/-! Two runs side by side (reference): ranges, from their start. -/
section KRS
variable {g1 g2 g1' g2' : Nat → Prop} {l1 l2 l1' l2' : List Nat} {B1 h1 B2 h2 h1' h2' n : Nat} {σ1 σ2 τ1 τ2 : MS}
theorem k_rng9 {f m : Nat} (hf : f ≤ 175990) (hr1 : h1 + 71200 ≤ B1 + 870000) (hr2 : h2 + 71200 ≤ B2 + 870000) {N1 N2 : Nat → Int32} (hX : KPx g1 g2 B1 h1 B2 h2 f 0 70 σ1 σ2 τ1 τ2 g1' l1' h1' g2' l2' h2') (r3 : RgE g1' g2' τ1 τ2 (N1 3) (N2 3)) (r5 : RgE g1' g2' τ1 τ2 (N1 5) (N2 5)) (n1 : N1 1 = N2 1) (n7 : N1 7 = N2 7) (r67 : (N1 7 = 0 ∧ RgE g1' g2' τ1 τ2 (N1 6) (N2 6)) ∨ (¬ N1 7 = 0 ∧ RgE g1' g2' τ1 τ2 (N1 4) (N2 4) ∧ (N1 5 = N1 4 ↔ N2 5 = N2 4))) : Pm m (fun k => x_range k 9 N1 τ1) (fun k => x_range k 9 N2 τ2) (KQ h1 h2 71200) := by
  have hX0 := hX
  obtain ⟨q1, q2, q3, q4, q5, q6, q7, q8, q9, q10, q11⟩ := hX
  have b14 : ∀ (m : Nat) (M1 M2 : Nat → Int32), M1 1 = N1 1 → M2 1 = N2 1 → M1 3 = N1 3 → M2 3 = N2 3 → M1 4 = N1 4 → M2 4 = N2 4 → M1 6 = N1 6 → M2 6 = N2 6 → M1 7 = N1 7 → M2 7 = N2 7 → M1 8 = M2 8 → M1 9 = nI f → M2 9 = nI f → M1 10 = N1 5 → M2 10 = N2 5 → M1 100 = M2 100 → Pm m (fun k => x_range k 14 M1 τ1) (fun k => x_range k 14 M2 τ2) (KQ h1 h2 71200) := by
    intro m M1 M2 i1 j1 i3 j3 i4 j4 i6 j6 i7 j7 i8 i9 j9 i10 j10 i100
    refine Pm_suc rfl (fun k => by rw [x_range]) (fun k => by rw [x_range]) (fun m1 _ => ?_)
    refine k_rng15 hf hr1 hr2 m1 0 _ _ τ1 τ2 (by omega) ⟨g1', l1', h1', g2', l2', h2', hX0, ?_, ⟨?_, ?_, i8, i9, j9, i100⟩, fun _ => ?_, ?_⟩
    · show RgE g1' g2' τ1 τ2 (M1 3) (M2 3)
      rw [i3, j3]; exact r3
    · show M1 1 = M2 1
      rw [i1, j1, n1]
    · show M1 7 = M2 7
      rw [i7, j7, n7]
    · show RgE g1' g2' τ1 τ2 (M1 10) (M2 10)
      rw [i10, j10]; exact r5
    · show (M1 7 = 0 ∧ RgE g1' g2' τ1 τ2 (M1 6) (M2 6)) ∨ (¬ M1 7 = 0 ∧ RgE g1' g2' τ1 τ2 (M1 4) (M2 4) ∧ (¬ M1 100 = 0 → (M1 10 = M1 4 ↔ M2 10 = M2 4)))
      rw [i7, i6, j6, i4, j4, i10, j10]
      exact r67.imp id (fun z => ⟨z.1, z.2.1, fun _ => z.2.2⟩)
  have b12 : ∀ (m : Nat) (M1 M2 : Nat → Int32), M1 1 = N1 1 → M2 1 = N2 1 → M1 3 = N1 3 → M2 3 = N2 3 → M1 4 = N1 4 → M2 4 = N2 4 → M1 5 = N1 5 → M2 5 = N2 5 → M1 6 = N1 6 → M2 6 = N2 6 → M1 7 = N1 7 → M2 7 = N2 7 → M1 100 = M2 100 → Pm m (fun k => x_range k 12 M1 τ1) (fun k => x_range k 12 M2 τ2) (KQ h1 h2 71200) := by
    intro m M1 M2 i1 j1 i3 j3 i4 j4 i5 j5 i6 j6 i7 j7 i100
    have q5 : τ1.1 59 = nI f := q5
    have q6 : τ2.1 59 = nI f := q6
    refine Pm_suc rfl (fun k => by rw [x_range]) (fun k => by rw [x_range]) (fun m1 _ => ?_)
    rw [i100, q5, q6]
    refine Pm_ite Iff.rfl (fun _ _ => ?_) (fun _ _ => b14 m1 _ _ i1 j1 i3 j3 i4 j4 i6 j6 i7 j7 rfl rfl rfl i5 j5 rfl)
    refine Pm_suc rfl (fun k => by rw [x_range]) (fun k => by rw [x_range]) (fun m2 _ => ?_)
    exact b14 m2 _ _ i1 j1 i3 j3 i4 j4 i6 j6 i7 j7 rfl rfl rfl i5 j5 rfl
  refine Pm_suc rfl (fun k => by rw [x_range]) (fun k => by rw [x_range]) (fun m1 _ => ?_)
  rw [← n7]
  refine Pm_ite Iff.rfl (fun z _ => ?_) (fun z _ => ?_)
  · rcases r67 with r67 | r67
    · obtain ⟨a1, a2, s1, s2, c3, c4, ev, k⟩ := r67.2
      obtain ⟨p, hA⟩ := WhE_of q1.1 q2.1 (Or.inr c3) (Or.inr c4) ev k
      refine Pm_suc rfl (fun k => by rw [x_range]) (fun k => by rw [x_range]) (fun m2 _ => ?_)
      refine Pm_ob (k_signOf q1.1 q2.1 hA (by exact s1) (by exact s2)) (fun r1 r2 hr => ?_)
      rw [hr.1, hr.2]
      exact b12 m2 _ _ rfl rfl rfl rfl rfl rfl rfl rfl rfl rfl rfl rfl rfl
    · exact absurd z r67.1
  · rcases r67 with r67 | r67
    · exact absurd r67.1 z
    · refine Pm_ob (RgE_cmp q1.1 q2.1 r67.2.1 r5 rfl rfl rfl rfl) (fun r1 r2 hr => ?_)
      rw [hr.1, hr.2.1, hr.2.2]
      refine Pm_ite Iff.rfl (fun _ _ => ?_) (fun _ _ => b12 m1 _ _ rfl rfl rfl rfl rfl rfl rfl rfl rfl rfl rfl rfl rfl)
      refine Pm_suc rfl (fun k => by rw [x_range]) (fun k => by rw [x_range]) (fun m2 _ => ?_)
      exact b12 m2 _ _ rfl rfl rfl rfl rfl rfl rfl rfl rfl rfl rfl rfl rfl
theorem u_addS {g : Nat → Prop} {l : List Nat} {B h m : Nat} {σ : MS} {x y : Int32} (hS : HS g l B h σ) (e : σ.1 56 = 0) (hr : h + 70 ≤ B + 870000) (hx : ∃ a, y = nI a ∧ g a ∧ kdN (σ.2.2 28) a = 2) (sg : ∀ a p, g a → kdN (σ.2.2 28) a = 2 → Wh σ a p → SgOK (σ.2.2 28) a p) {L : Nat → Int32} (d1 : L 1 = x) (d2 : L 2 = y) (d3 : L 3 = -1) : Um m (fun k => x_add k 0 L σ) (fun r => y = x → r.2.1 56 = 0) := by
  by_cases c : y = x
  · obtain ⟨a, e1, e2, e3⟩ := hx
    obtain ⟨p, hW⟩ := Wh_of hS (Or.inr e2) e3
    exact Um_mono (u_addSame hS e hr hW (sg a p e2 e3 hW) (d1.trans (c.symm.trans e1)) (d2.trans e1) d3) (fun r hr _ => hr)
  · exact fun k hk r hr z => absurd z c
theorem k_rng4 {f m : Nat} (hS1 : HS g1 l1 B1 h1 σ1) (hS2 : HS g2 l2 B2 h2 σ2) (e1 : σ1.1 56 = 0) (e2 : σ2.1 56 = 0) (t1 : σ1.1 59 = nI f) (t2 : σ2.1 59 = nI f) (hf : f ≤ 175990) (hr1 : h1 + 71200 ≤ B1 + 870000) (hr2 : h2 + 71200 ≤ B2 + 870000) (sg1 : ∀ a p, g1 a → kdN (σ1.2.2 28) a = 2 → Wh σ1 a p → SgOK (σ1.2.2 28) a p) (sg2 : ∀ a p, g2 a → kdN (σ2.2.2 28) a = 2 → Wh σ2 a p → SgOK (σ2.2.2 28) a p) {N1 N2 : Nat → Int32} (r3 : RgE g1 g2 σ1 σ2 (N1 3) (N2 3)) (r5 : RgE g1 g2 σ1 σ2 (N1 5) (N2 5)) (n1 : N1 1 = N2 1) (n2 : N1 2 = N2 2) (r4 : ¬ N2 2 = 0 → RgE g1 g2 σ1 σ2 (N1 4) (N2 4)) : Pm m (fun k => x_range k 4 N1 σ1) (fun k => x_range k 4 N2 σ2) (KQ h1 h2 71200) := by
  have hX0 : KPx g1 g2 B1 h1 B2 h2 f 0 0 σ1 σ2 σ1 σ2 g1 l1 h1 g2 l2 h2 := ⟨HG_rf hS1, HG_rf hS2, FW_rf, FW_rf, t1, t2, fun i hi => absurd hi (Nat.not_lt_zero i), e1, e2, by omega, by omega⟩
  -- the step is known, or it is too large
  have b8 : ∀ (m : Nat) (M1 M2 : Nat → Int32) (r1 r2 : Int32 × MS) (g1' : Nat → Prop) (l1' : List Nat) (h1' : Nat) (g2' : Nat → Prop) (l2' : List Nat) (h2' : Nat), HG g1 B1 h1 σ1 r1.2 g1' l1' h1' → HG g2 B2 h2 σ2 r2.2 g2' l2' h2' → FW f σ1 r1.2 → FW f σ2 r2.2 → r1.2.1 59 = nI f → r2.2.1 59 = nI f → h1' ≤ h1 + 70 → h2' ≤ h2 + 70 → M1 1 = N1 1 → M2 1 = N2 1 → M1 3 = N1 3 → M2 3 = N2 3 → M1 5 = N1 5 → M2 5 = N2 5 → M1 100 = M2 100 → ((M1 100 = 0 ∧ RgE g1' g2' r1.2 r2.2 (M1 6) (M2 6)) ∨ (¬ M1 100 = 0 ∧ RgE g1' g2' r1.2 r2.2 (M1 4) (M2 4) ∧ (M1 5 = M1 4 ↔ M2 5 = M2 4))) → Pm m (fun k => x_range k 8 M1 r1.2) (fun k => x_range k 8 M2 r2.2) (KQ h1 h2 71200) := by
    intro m M1 M2 r1 r2 g1' l1' h1' g2' l2' h2' a1 a2 a3 a4 a5 a6 a7 a8 i1 j1 i3 j3 i5 j5 i100 hor
    refine Pm_suc rfl (fun k => by rw [x_range]) (fun k => by rw [x_range]) (fun m1 _ => ?_)
    show Pm m1 (fun k => x_range k 9 (upd M1 7 (M1 100)) (mSc r1.2 56 0)) (fun k => x_range k 9 (upd M2 7 (M2 100)) (mSc r2.2 56 0)) _
    have hX : KPx g1 g2 B1 h1 B2 h2 f 0 (0 + 70) σ1 σ2 (mSc r1.2 56 0) (mSc r2.2 56 0) g1' l1' h1' g2' l2' h2' := KPx_st (υ1 := mSc r1.2 56 0) (υ2 := mSc r2.2 56 0) hX0 ⟨HS_c a1.1 rfl rfl rfl, a1.2.1, a1.2.2.1, a1.2.2.2⟩ ⟨HS_c a2.1 rfl rfl rfl, a2.2.1, a2.2.2.1, a2.2.2.2⟩ (FW_tr a3 (FW_sc (Or.inr (Or.inl rfl)))) (FW_tr a4 (FW_sc (Or.inr (Or.inl rfl)))) a5 a6 rfl rfl a7 a8
    have tr : ∀ x y, RgE g1 g2 σ1 σ2 x y → RgE g1' g2' (mSc r1.2 56 0) (mSc r2.2 56 0) x y := fun x y hx => RgE_c (RgE_g hS1 hS2 a1 a2 hx) rfl rfl
    refine k_rng9 hf hr1 hr2 hX ?_ ?_ ?_ i100 ?_
    · show RgE g1' g2' (mSc r1.2 56 0) (mSc r2.2 56 0) (M1 3) (M2 3)
      rw [i3, j3]; exact tr _ _ r3
    · show RgE g1' g2' (mSc r1.2 56 0) (mSc r2.2 56 0) (M1 5) (M2 5)
      rw [i5, j5]; exact tr _ _ r5
    · show M1 1 = M2 1
      rw [i1, j1, n1]
    · show (M1 100 = 0 ∧ RgE g1' g2' (mSc r1.2 56 0) (mSc r2.2 56 0) (M1 6) (M2 6)) ∨ (¬ M1 100 = 0 ∧ RgE g1' g2' (mSc r1.2 56 0) (mSc r2.2 56 0) (M1 4) (M2 4) ∧ (M1 5 = M1 4 ↔ M2 5 = M2 4))
      exact hor.imp (fun z => ⟨z.1, RgE_c z.2 rfl rfl⟩) (fun z => ⟨z.1, RgE_c z.2.1 rfl rfl, z.2.2⟩)
  refine Pm_suc rfl (fun k => by rw [x_range]) (fun k => by rw [x_range]) (fun m1 _ => ?_)
  rw [n2]
  refine Pm_ite Iff.rfl (fun _ _ => ?_) (fun z _ => ?_)
  · refine Pm_suc rfl (fun k => by rw [x_range]) (fun k => by rw [x_range]) (fun m2 _ => ?_)
    refine Pm_ob (Pm_un (s_smallW ⟨hS1, t1, by omega, ⟨0, e1, by decide⟩⟩ _) (fun k => f_small k _ _ _) (s_smallW ⟨hS2, t2, by omega, ⟨0, e2, by decide⟩⟩ _) (fun k => f_small k _ _ _) (k_small hS1 hS2 e1 e2 (by omega) (by omega) (fun i hi => rfl))) (fun r1 r2 hr => ?_)
    obtain ⟨hq, w1, w2⟩ := hr
    have v1 := VW_VO w1
    have v2 := VW_VO w2
    have x1 : r1.2.1 56 = 0 := by
      obtain ⟨_, _, _, _, _, _, _, _, _, _, ok, _⟩ := w1
      exact ok trivial e1 (by omega)
    obtain ⟨g1', l1', h1', g2', l2', h2', s1, s2, s3, s4, s5, s6, s7, s8, s9⟩ := KQ_g0 (by omega) hS1 hS2 v1 v2 hq
    refine Pm_suc rfl (fun k => by rw [x_range]) (fun k => by rw [x_range]) (fun m3 _ => ?_)
    rw [x1, hq.1.mp x1]
    refine Pm_ite Iff.rfl (fun _ _ => ?_) (fun y _ => absurd (by decide) y)
    refine Pm_suc rfl (fun k => by rw [x_range]) (fun k => by rw [x_range]) (fun m4 _ => ?_)
    exact b8 m4 _ _ r1 r2 g1' l1' h1' g2' l2' h2' s1 s2 s3 s4 s5 s6 s8 s9 rfl rfl rfl rfl rfl rfl rfl (Or.inl ⟨rfl, RgE_W x1 w1 (s7 x1)⟩)
  · have r4 := r4 z
    have c5 : ∃ a, N1 5 = nI a ∧ g1 a ∧ kdN (σ1.2.2 28) a = 2 := by
      obtain ⟨a1, a2, i1, i2, c3, c4, ev, k⟩ := r5
      exact ⟨a1, i1, c3, k⟩
    have d5 : ∃ a, N2 5 = nI a ∧ g2 a ∧ kdN (σ2.2.2 28) a = 2 := by
      obtain ⟨a1, a2, i1, i2, c3, c4, ev, k⟩ := r5
      exact ⟨a2, i2, c4, by rw [(EVb_sz ev).2.2]; exact k⟩
    refine Pm_ob (Pm_and (RgE_add hS1 hS2 e1 e2 t1 t2 (by omega) (by omega) (by omega) r4 r5 rfl rfl rfl rfl (Or.inr rfl) (fun i hi => ?_)) (Pm_u2 (u_addS (x := N1 4) (y := N1 5) hS1 e1 (by omega) c5 sg1 rfl rfl rfl) (u_addS (x := N2 4) (y := N2 5) hS2 e2 (by omega) d5 sg2 rfl rfl rfl))) (fun r1 r2 hr => ?_)
    · by_cases c : i = 3
      · rw [c]; rfl
      · rw [upd_other c, upd_other c, upd_other (by omega), upd_other (by omega), upd_other (by omega), upd_other (by omega)]
    obtain ⟨⟨ee, eb1, eb2, g1', l1', h1', g2', l2', h2', s1, s2, s3, s4, s5, s6, s7, s8, s9⟩, y1, y2⟩ := hr
    refine Pm_suc rfl (fun k => by rw [x_range]) (fun k => by rw [x_range]) (fun m3 _ => ?_)
    by_cases er : r1.2.1 56 = 0
    · rw [er, ee.mp er]
      refine Pm_ite Iff.rfl (fun _ _ => ?_) (fun y _ => absurd (by decide) y)
      refine Pm_suc rfl (fun k => by rw [x_range]) (fun k => by rw [x_range]) (fun m4 _ => ?_)
      exact b8 m4 _ _ r1 r2 g1' l1' h1' g2' l2' h2' s1 s2 s3 s4 s5 s6 s8 s9 rfl rfl rfl rfl rfl rfl rfl (Or.inl ⟨rfl, s7 er⟩)
    · have er2 : ¬ r2.2.1 56 = 0 := fun c => er (ee.mpr c)
      have z1 := ErB_pos eb1 er
      have z2 := ErB_pos eb2 er2
      refine Pm_ite ⟨fun y => absurd y z1, fun y => absurd y z2⟩ (fun y _ => absurd y z1) (fun _ _ => ?_)
      refine b8 m3 _ _ r1 r2 g1' l1' h1' g2' l2' h2' s1 s2 s3 s4 s5 s6 s8 s9 rfl rfl rfl rfl rfl rfl rfl (Or.inr ⟨show ¬ (1 : Int32) = 0 by decide, ?_, ?_⟩)
      · exact RgE_g hS1 hS2 s1 s2 r4
      · exact ⟨fun c => absurd (y1 c) er, fun c => absurd (y2 c) er2⟩
theorem k_range {f c : Nat} (hS1 : HS g1 l1 B1 h1 σ1) (hS2 : HS g2 l2 B2 h2 σ2) (e1 : σ1.1 56 = 0) (e2 : σ2.1 56 = 0) (hf : f ≤ 175990) (hr1 : h1 + 71200 ≤ B1 + 870000) (hr2 : h2 + 71200 ≤ B2 + 870000) (sg1 : ∀ a p, g1 a → kdN (σ1.2.2 28) a = 2 → Wh σ1 a p → SgOK (σ1.2.2 28) a p) (sg2 : ∀ a p, g2 a → kdN (σ2.2.2 28) a = 2 → Wh σ2 a p → SgOK (σ2.2.2 28) a p) {L1 L2 : Nat → Int32} (d1 : L1 1 = L2 1) (d2 : L1 2 = L2 2) (hc : (L2 2 = 0 ∧ c = 2) ∨ (¬ L2 2 = 0 ∧ c = 3)) (t1 : σ1.1 59 = nI (f + c)) (t2 : σ2.1 59 = nI (f + c)) (hP : PlE g1 g2 σ1 σ2 f c) : Pm n (fun k => x_range k 0 L1 σ1) (fun k => x_range k 0 L2 σ2) (KQ h1 h2 71200) := by
  have b2 : ∀ (m : Nat) (N1 N2 : Nat → Int32) (τ1 τ2 : MS), (∀ j, j ≠ 59 → τ1.1 j = σ1.1 j) → (∀ j, j ≠ 59 → τ2.1 j = σ2.1 j) → τ1.2.2 = σ1.2.2 → τ2.2.2 = σ2.2.2 → τ1.1 59 = nI (f + 1) → τ2.1 59 = nI (f + 1) → N1 1 = L1 1 → N2 1 = L2 1 → N1 2 = L1 2 → N2 2 = L2 2 → VC g1 g2 (σ1.2.2 28) (σ2.2.2 28) (N1 3) (N2 3) → (¬ L2 2 = 0 → VC g1 g2 (σ1.2.2 28) (σ2.2.2 28) (N1 100) (N2 100)) → Pm m (fun k => x_range k 2 N1 τ1) (fun k => x_range k 2 N2 τ2) (KQ h1 h2 71200) := by
    intro m N1 N2 τ1 τ2 a1 a2 c1 c2 t1 t2 n1 o1 n2 o2 v3 v100
    refine Pm_suc rfl (fun k => by rw [x_range]) (fun k => by rw [x_range]) (fun m1 _ => ?_)
    refine Pm_ob (Pm_t2 (s_pop t1 (by omega) _) (fun k => f_pop k _ _ _) (s_pop t2 (by omega) _) (fun k => f_pop k _ _ _)) (fun r1 r2 hr => ?_)
    rw [hr.1, hr.2, c1, c2]
    have v5 : VC g1 g2 (σ1.2.2 28) (σ2.2.2 28) (σ1.2.2 29 f) (σ2.2.2 29 f) := by
      rcases hc with ⟨_, rfl⟩ | ⟨_, rfl⟩
      · exact hP 0 (by omega)
      · exact hP 0 (by omega)
    have p28 : (mSc τ1 59 (nI f)).2.2 28 = σ1.2.2 28 := by show τ1.2.2 28 = _; rw [c1]
    have o28 : (mSc τ2 59 (nI f)).2.2 28 = σ2.2.2 28 := by show τ2.2.2 28 = _; rw [c2]
    have hT1 : HS g1 l1 B1 h1 (mSc τ1 59 (nI f)) := HS_c hS1 (show τ1.1 54 = _ from a1 54 (by decide)) (show τ1.1 55 = _ from a1 55 (by decide)) p28
    have hT2 : HS g2 l2 B2 h2 (mSc τ2 59 (nI f)) := HS_c hS2 (show τ2.1 54 = _ from a2 54 (by decide)) (show τ2.1 55 = _ from a2 55 (by decide)) o28
    have x1 : (mSc τ1 59 (nI f)).1 56 = 0 := (show τ1.1 56 = σ1.1 56 from a1 56 (by decide)).trans e1
    have x2 : (mSc τ2 59 (nI f)).1 56 = 0 := (show τ2.1 56 = σ2.1 56 from a2 56 (by decide)).trans e2
    have y1 : (mSc τ1 59 (nI f)).1 59 = nI f := rfl
    have y2 : (mSc τ2 59 (nI f)).1 59 = nI f := rfl
    have s1 : ∀ a p, g1 a → kdN ((mSc τ1 59 (nI f)).2.2 28) a = 2 → Wh (mSc τ1 59 (nI f)) a p → SgOK ((mSc τ1 59 (nI f)).2.2 28) a p := by
      intro a p; unfold Wh; rw [p28]; exact sg1 a p
    have s2 : ∀ a p, g2 a → kdN ((mSc τ2 59 (nI f)).2.2 28) a = 2 → Wh (mSc τ2 59 (nI f)) a p → SgOK ((mSc τ2 59 (nI f)).2.2 28) a p := by
      intro a p; unfold Wh; rw [o28]; exact sg2 a p
    rw [← p28, ← o28] at v3 v5 v100
    generalize hQ1 : mSc τ1 59 (nI f) = ρ1 at hT1 x1 y1 s1 v3 v5 v100 p28
    generalize hQ2 : mSc τ2 59 (nI f) = ρ2 at hT2 x2 y2 s2 v3 v5 v100 o28
    have b3 : ∀ (m : Nat) (M1 M2 : Nat → Int32), Pm m (fun k => x_range k 3 M1 ρ1) (fun k => x_range k 3 M2 ρ2) (KQ h1 h2 71200) := fun m M1 M2 => by
      refine Pm_suc rfl (fun k => by rw [x_range]) (fun k => by rw [x_range]) (fun m3 _ => ?_)
      exact Pm_ob (k_wrongKind hT1 hT2 _ _) (fun r1 r2 hr => Pm_some hr)
    obtain ⟨a, b, a3, a4, b3', b4, av, ab, bb⟩ := v5
    obtain ⟨d, w, d3, d4, w3, w4, dv, db, wb⟩ := v3
    have ka := kdN_6 hT1 a4
    have kd := kdN_6 hT1 d4
    have R5 : kdN (ρ1.2.2 28) a = 2 → RgE g1 g2 ρ1 ρ2 (σ1.2.2 29 f) (σ2.2.2 29 f) := fun hk => ⟨a, b, a3, b3', kdN_ge hT1 a4 (by omega), kdN_ge hT2 b4 (by rw [(EVb_sz av).2.2]; omega), av, hk⟩
    have R3 : kdN (ρ1.2.2 28) d = 2 → RgE g1 g2 ρ1 ρ2 (N1 3) (N2 3) := fun hk => ⟨d, w, d3, w3, kdN_ge hT1 d4 (by omega), kdN_ge hT2 w4 (by rw [(EVb_sz dv).2.2]; omega), dv, hk⟩
    refine Pm_ob (Pm_t2 (s_kind hT1 a4 (by exact a3)) (fun k => f_kind k _ _ _) (s_kind hT2 b4 (by exact b3')) (fun k => f_kind k _ _ _)) (fun r1 r2 hr => ?_)
    rw [hr.1, hr.2, (EVb_sz av).2.2]
    refine Pm_ite Iff.rfl (fun z _ => ?_) (fun _ _ => b3 _ _ _)
    have z := (n_eq (q := 2) (by omega) (by decide)).mp z
    refine Pm_ob (Pm_t2 (s_kind hT1 d4 (by exact d3)) (fun k => f_kind k _ _ _) (s_kind hT2 w4 (by exact w3)) (fun k => f_kind k _ _ _)) (fun r1 r2 hr => ?_)
    rw [hr.1, hr.2, (EVb_sz dv).2.2, n2, o2, d2]
    refine Pm_ite Iff.rfl (fun z2 _ => ?_) (fun _ _ => b3 _ _ _)
    have z2 := (n_eq (q := 2) (by omega) (by decide)).mp z2
    refine Pm_ite Iff.rfl (fun q _ => ?_) (fun q _ => ?_)
    · exact k_rng4 hT1 hT2 x1 x2 y1 y2 hf hr1 hr2 s1 s2 (R3 z2) (R5 z) (by show N1 1 = N2 1; rw [n1, o1, d1]) (by show N1 2 = N2 2; rw [n2, o2, d2]) (fun y => absurd (o2.trans q) y)
    · obtain ⟨i, j, i3, i4, j3, j4, iv, ib, jb⟩ := v100 q
      have ki := kdN_6 hT1 i4
      refine Pm_ob (Pm_t2 (s_kind hT1 i4 (by exact i3)) (fun k => f_kind k _ _ _) (s_kind hT2 j4 (by exact j3)) (fun k => f_kind k _ _ _)) (fun r1 r2 hr => ?_)
      rw [hr.1, hr.2, (EVb_sz iv).2.2]
      refine Pm_ite Iff.rfl (fun z3 _ => ?_) (fun _ _ => b3 _ _ _)
      have z3 := (n_eq (q := 2) (by omega) (by decide)).mp z3
      exact k_rng4 hT1 hT2 x1 x2 y1 y2 hf hr1 hr2 s1 s2 (R3 z2) (R5 z) (by show N1 1 = N2 1; rw [n1, o1, d1]) (by show N1 2 = N2 2; rw [n2, o2, d2]) (fun _ => ⟨i, j, i3, j3, kdN_ge hT1 i4 (by omega), kdN_ge hT2 j4 (by rw [(EVb_sz iv).2.2]; omega), iv, z3⟩)
  refine Pm_suc rfl (fun k => by rw [x_range]) (fun k => by rw [x_range]) (fun m1 _ => ?_)
  rcases hc with ⟨z, rfl⟩ | ⟨z, rfl⟩
  · refine Pm_ob (Pm_t2 (s_pop (u := f + 1) t1 (by omega) _) (fun k => f_pop k _ _ _) (s_pop (u := f + 1) t2 (by omega) _) (fun k => f_pop k _ _ _)) (fun r1 r2 hr => ?_)
    rw [hr.1, hr.2, d2]
    refine Pm_ite Iff.rfl (fun _ _ => ?_) (fun w _ => absurd z w)
    refine Pm_suc rfl (fun k => by rw [x_range]) (fun k => by rw [x_range]) (fun m2 _ => ?_)
    exact b2 m2 _ _ _ _ (fun j hj => upd_other hj) (fun j hj => upd_other hj) rfl rfl rfl rfl rfl rfl rfl rfl (hP 1 (by omega)) (fun q => absurd z q)
  · refine Pm_ob (Pm_t2 (s_pop (u := f + 2) t1 (by omega) _) (fun k => f_pop k _ _ _) (s_pop (u := f + 2) t2 (by omega) _) (fun k => f_pop k _ _ _)) (fun r1 r2 hr => ?_)
    rw [hr.1, hr.2, d2]
    refine Pm_ite Iff.rfl (fun w _ => absurd w z) (fun _ _ => ?_)
    refine Pm_ob (Pm_t2 (s_pop (σ := mSc σ1 59 (nI (f + 2))) (u := f + 1) rfl (by omega) _) (fun k => f_pop k _ _ _) (s_pop (σ := mSc σ2 59 (nI (f + 2))) (u := f + 1) rfl (by omega) _) (fun k => f_pop k _ _ _)) (fun s1 s2 hs => ?_)
    rw [hs.1, hs.2]
    exact b2 m1 _ _ _ _ (fun j hj => (upd_other hj).trans (upd_other hj)) (fun j hj => (upd_other hj).trans (upd_other hj)) rfl rfl rfl rfl rfl rfl rfl rfl (hP 2 (by omega)) (fun _ => hP 1 (by omega))
end KRS
