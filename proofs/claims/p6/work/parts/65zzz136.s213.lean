/-! Evaluation on both sides (reference): sets in brackets. -/
section ESE
variable {T : Nat → Nat → Int32} {FN : Nat → Nat → Prop} {O r K d t u w XC : Nat} {lc : Nat → Prop} {σ1 σ2 τ1 τ2 : MS}
theorem b_set {n e f0 m0 : Nat} (hE : PE T FN e) (hn : (1 ≤ n ∧ n < LNo T % 70001)) (hO : 1 ≤ O) (hW : WN T FN f0 3 (O - 1) m0 K lc (T 6 n)) (hP : PC T FN O r K lc (e + 3) t w XC σ1) (hI : EI t w XC σ1 σ2) {L1 L2 : Nat → Int32} (d1 : L1 1 = nI n) (d2 : L2 1 = nI n) : T2 (fun k => x_GV k (e + 1) 11 0 L1 σ1) (fun k => x_GV k (e + 1) 11 0 L2 σ2) (EQ (178000 + (e + 1)) t w XC σ1 σ2) := by
  have ht := PC_t hP
  have hXC := hP.2.1
  have hd13 := hP.2.2.2.2.1
  have hS1 := hP.1
  have hS2 := EI_ST hI hS1
  have tb : ∀ (τ1 τ2 : MS), FE σ1 τ1 → FE σ2 τ2 → ∀ a i, 4 ≤ a → a ≤ 9 → (1 ≤ i ∧ i < LNo T % 70001) → τ1.2.2 a i = T a i ∧ τ2.2.2 a i = T a i := fun τ1 τ2 f1 f2 a i h1 h2 h3 => ⟨(STb_fe hS1 f1).1 a i h1 (by omega) ⟨fun _ => h3, fun z => by omega⟩, (STb_fe hS2 f2).1 a i h1 (by omega) ⟨fun _ => h3, fun z => by omega⟩⟩
  have f59 : ∀ (σ : MS) (x : Int32), FE σ (mSc σ 59 x) := fun σ x => FE_sc (Or.inr (Or.inr (Or.inl rfl)))
  have b18 : ∀ (N1 N2 : Nat → Int32) (v1 v2 : MS), EQ (178000 + (e + 1)) t w XC σ1 σ2 (0, v1) (0, v2) → T2 (fun k => x_GV k (e + 1) 11 18 N1 v1) (fun k => x_GV k (e + 1) 11 18 N2 v2) (EQ (178000 + (e + 1)) t w XC σ1 σ2) := fun N1 N2 v1 v2 h => by
    refine T2_suc (fun k => e_setBrackets_18 k _ _ _) (fun k => e_setBrackets_18 k _ _ _) ?_
    exact T2_some h
  have b17Z : ∀ (N1 N2 : Nat → Int32) (τ1 τ2 : MS), FE σ1 τ1 → FE σ2 τ2 → EZ t (178000 + e) τ1 → EZ t (178000 + e) τ2 → T2 (fun k => x_GV k (e + 1) 11 17 N1 τ1) (fun k => x_GV k (e + 1) 11 17 N2 τ2) (EQ (178000 + (e + 1)) t w XC σ1 σ2) := fun N1 N2 τ1 τ2 f1 f2 z1 z2 => by
    refine T2_suc (fun k => e_setBrackets_17 k _ _ _) (fun k => e_setBrackets_17 k _ _ _) ?_
    refine T2_ite ⟨fun z => absurd z (EZ_e z1), fun z => absurd z (EZ_e z2)⟩ (fun z _ => absurd z (EZ_e z1)) (fun _ _ => ?_)
    exact b18 _ _ _ _ ⟨f1, f2, Or.inr ⟨EZ_mo z1 (Nat.le_refl _) (by omega), EZ_mo z2 (Nat.le_refl _) (by omega)⟩⟩
  -- the set is made
  have b17 : ∀ (j w' : Nat) (N1 N2 : Nat → Int32) (τ1 τ2 : MS), j ≤ 1200 → N1 2 = nI t → N2 2 = nI t → FE σ1 τ1 → FE σ2 τ2 → w ≤ w' → EI (t + j) w' XC τ1 τ2 → T2 (fun k => x_GV k (e + 1) 11 17 N1 τ1) (fun k => x_GV k (e + 1) 11 17 N2 τ2) (EQ (178000 + (e + 1)) t w XC σ1 σ2) := by
    intro j w' N1 N2 τ1 τ2 hj n2 o2 f1 f2 hw' hJ
    obtain ⟨e1, e2⟩ := EI_e hJ
    refine T2_suc (fun k => e_setBrackets_17 k _ _ _) (fun k => e_setBrackets_17 k _ _ _) ?_
    rw [e1, e2]
    refine T2_ite Iff.rfl (fun _ _ => ?_) (fun z _ => absurd rfl z)
    refine T2_ob (E_sw hXC (by omega) hJ) (fun r1 r2 hr => ?_)
    obtain ⟨k1, k2, g1, l1, B1, h1, X1, g2, l2, B2, h2, X2, hX, rm1, rm2⟩ := hr
    obtain ⟨a1, a2, aR, i1, i2, t1, q1, q2, w1, hw, x1, x2, ⟨ty1, ty2⟩, a, y1, y2⟩ := hX
    have al : ∀ j, AlS j → r2.2.1 j = r1.2.1 j := fun j h => (aR.2.2.1 j h).symm
    have t2 : r2.2.1 59 = nI (t + j) := (al 59 (by unfold AlS; omega)).trans t1
    have w2 : r2.2.1 57 = nI w' := (al 57 (by unfold AlS; omega)).trans w1
    have pl : PlE g1 g2 r1.2 r2.2 t j := fun i hi => aR.1 29 (t + i) (Or.inl ⟨rfl, by omega⟩) (by unfold VwR; omega)
    have m1 : MI t X1 g1 l1 B1 h1 r1.2 := MI_mo a1 (by omega)
    have m2 : MI t X2 g2 l2 B2 h2 r2.2 := MI_mo a2 (by omega)
    rw [n2, o2]
    refine T2_ob (T2_of (s_setOf (L := upd (fun _ => 0) 1 (nI t)) a1.1 ⟨0, q1, by decide⟩ t1 (by omega) (by omega) (PlE_1 pl) rfl) (s_setOf (L := upd (fun _ => 0) 1 (nI t)) a2.1 ⟨0, q2, by decide⟩ t2 (by omega) (by omega) (PlE_2 pl) rfl) (fun n' => Pm_wl (fun k => wl_setOf k _ _ _) (fun k => wl_setOf k _ _ _) (k_setOf a1.1 a2.1 q1 q2 t1 t2 (by omega) (by omega) (by omega) (by omega) pl rfl rfl))) (fun s1 s2 hs => ?_)
    obtain ⟨⟨hq, wl1, wl2⟩, o1, o2'⟩ := hs
    have o1' := o1
    have o2'' := o2'
    obtain ⟨_, _, _, _, fw1, _⟩ := o1'
    obtain ⟨_, _, _, _, fw2, _⟩ := o2''
    have p57 : s1.2.1 57 = s2.2.1 57 := by rw [fw1.1 57 (by decide), fw2.1 57 (by decide), w1, w2]
    have p95 := fw1.1 95 (by decide)
    have p95' := fw2.1 95 (by decide)
    exact E_ans m1 m2 (RA_mo (by omega) aR) i1 i2 (by omega) ty1 ty2 ⟨a, p95.trans y1, y2⟩ (p95.trans ((aR.2.2.1 95 (by unfold AlS; omega)).trans p95'.symm)) (SO_of (W := 0) (by omega) m1 w1 hw.1 x1 (VQ_of o1)) (SO_of (W := 0) (by omega) m2 w2 hw.1 x2 (VQ_of o2')) ⟨KR_of (c := 8600) (VO_54 o1) (VO_54 o2') (by omega) hq p57, by rw [wl1, wl2]; exact aR.2.2.2⟩ (fun v1 v2 h1 h2 h => b18 _ _ _ _ (EQ_ans (FE_tr f1 k1) (FE_tr f2 k2) hw' (by omega) h1 h2 h))
  -- one member after another
  have b1 : ∀ (f m j w' : Nat) (x : Int32) (N1 N2 : Nat → Int32) (τ1 τ2 : MS), WN T FN f 3 (O - 1) m K lc x → j ≤ 1199 → N1 2 = nI t → N2 2 = nI t → N1 5 = x → N2 5 = x → N1 3 = N2 3 → N1 4 = N2 4 → FE σ1 τ1 → FE σ2 τ2 → w ≤ w' → EI (t + j) w' XC τ1 τ2 → T2 (fun k => x_GV k (e + 1) 11 1 N1 τ1) (fun k => x_GV k (e + 1) 11 1 N2 τ2) (EQ (178000 + (e + 1)) t w XC σ1 σ2) := by
    intro f
    induction f with
    | zero => intro m j w' x N1 N2 τ1 τ2 hW; exact hW.elim
    | succ f ih =>
      intro m j w' x N1 N2 τ1 τ2 hW hj n2 o2 n5 o5 n3 n4 f1 f2 hw' hJ
      unfold WN at hW
      rcases hW with ⟨z, _⟩ | ⟨z, _⟩ | ⟨z, _⟩ | ⟨_, hor⟩ | ⟨z, _⟩ | ⟨z, _⟩ | ⟨z, _⟩
      case inl => exact absurd z (by decide)
      case inr.inl => exact absurd z (by decide)
      case inr.inr.inl => exact absurd z (by decide)
      case inr.inr.inr.inr.inl => exact absurd z (by decide)
      case inr.inr.inr.inr.inr.inl => exact absurd z (by decide)
      case inr.inr.inr.inr.inr.inr => exact absurd z (by decide)
      obtain ⟨e1, e2⟩ := EI_e hJ
      rcases hor with ⟨_, xz⟩ | ⟨m', c, rm, xc, hc, W0, W9⟩
      · refine T2_suc (fun k => e_setBrackets_1 k _ _ _) (fun k => e_setBrackets_1 k _ _ _) ?_
        rw [n5, o5, xz]
        refine T2_ite Iff.rfl (fun _ _ => ?_) (fun z _ => absurd rfl z)
        refine T2_suc (fun k => e_setBrackets_15 k _ _ _) (fun k => e_setBrackets_15 k _ _ _) ?_
        rw [e1, e2, n3]
        refine T2_ite Iff.rfl (fun _ _ => ?_) (fun z _ => absurd rfl z)
        refine T2_ite Iff.rfl (fun _ _ => ?_) (fun _ _ => ?_)
        · refine T2_suc (fun k => e_setBrackets_16 k _ _ _) (fun k => e_setBrackets_16 k _ _ _) ?_
          rw [e1, e2, n4]
          refine T2_ite Iff.rfl (fun _ _ => ?_) (fun z _ => absurd rfl z)
          refine T2_ite Iff.rfl (fun _ _ => b17 j w' _ _ τ1 τ2 (by omega) n2 o2 f1 f2 hw' hJ) (fun _ _ => ?_)
          refine T2_ob (T2_t (s_fail _ _) (s_fail _ _)) (fun r1 r2 hr => ?_)
          rw [hr.1, hr.2]
          obtain ⟨z1, z2⟩ := E_er (a := t) (b := 178000 + e) (e := 5) hXC hJ (by decide) (by decide) (by omega) (by omega)
          exact b17Z _ _ _ _ (FE_tr f1 FE_er) (FE_tr f2 FE_er) z1 z2
        · refine T2_ob (T2_t (s_fail _ _) (s_fail _ _)) (fun r1 r2 hr => ?_)
          rw [hr.1, hr.2]
          obtain ⟨z1, z2⟩ := E_er (a := t) (b := 178000 + e) (e := 3) hXC hJ (by decide) (by decide) (by omega) (by omega)
          exact b17Z _ _ _ _ (FE_tr f1 FE_er) (FE_tr f2 FE_er) z1 z2
      -- the next
      have b14 : ∀ (j' w2 : Nat) (M1 M2 : Nat → Int32) (υ1 υ2 : MS), j' ≤ 1199 → M1 2 = nI t → M2 2 = nI t → M1 5 = x → M2 5 = x → M1 3 = M2 3 → M1 4 = M2 4 → FE σ1 υ1 → FE σ2 υ2 → w ≤ w2 → EI (t + j') w2 XC υ1 υ2 → T2 (fun k => x_GV k (e + 1) 11 14 M1 υ1) (fun k => x_GV k (e + 1) 11 14 M2 υ2) (EQ (178000 + (e + 1)) t w XC σ1 σ2) := by
        intro j' w2 M1 M2 υ1 υ2 h1 m2 l2 m5 l5 m3 m4 k1 k2 hw2 hJ2
        refine T2_suc (fun k => e_setBrackets_14 k _ _ _) (fun k => e_setBrackets_14 k _ _ _) ?_
        rw [m5, l5, xc]
        refine T2_chk (n_in (by omega) (by omega)) (n_in (by omega) (by omega)) ?_
        rw [n_cl (p := c) (by omega), (tb _ _ k1 k2 9 _ (by omega) (by omega) (by omega)).1, (tb _ _ k1 k2 9 _ (by omega) (by omega) (by omega)).2]
        exact ih m' j' w2 (T 9 c) _ _ υ1 υ2 W9 h1 m2 l2 rfl rfl m3 m4 k1 k2 hw2 hJ2
      have b6 : ∀ (j' w2 : Nat) (M1 M2 : Nat → Int32) (υ1 υ2 : MS), M1 2 = nI t → M2 2 = nI t → M1 5 = x → M2 5 = x → M1 3 = M2 3 → M1 4 = M2 4 → FE σ1 υ1 → FE σ2 υ2 → w ≤ w2 → EI (t + j') w2 XC υ1 υ2 → T2 (fun k => x_GV k (e + 1) 11 6 M1 υ1) (fun k => x_GV k (e + 1) 11 6 M2 υ2) (EQ (178000 + (e + 1)) t w XC σ1 σ2) := by
        intro j' w2 M1 M2 υ1 υ2 m2 l2 m5 l5 m3 m4 k1 k2 hw2 hJ2
        refine T2_suc (fun k => e_setBrackets_6 k _ _ _) (fun k => e_setBrackets_6 k _ _ _) ?_
        rw [m2, l2]
        exact b14 0 w2 _ _ (mSc υ1 59 (nI (t + 0))) (mSc υ2 59 (nI (t + 0))) (by omega) m2 l2 m5 l5 m3 m4 (FE_tr k1 (f59 _ _)) (FE_tr k2 (f59 _ _)) hw2 (EI_dn (by omega) hJ2)
      -- 1200 upon the pile: sizes are summed up
      have b8 : ∀ (v w2 : Nat) (υ1 υ2 : MS), v ≤ 1200 → FE σ1 υ1 → FE σ2 υ2 → w ≤ w2 → EI (t + v) w2 XC υ1 υ2 → ∀ (q i s : Nat) (M1 M2 : Nat → Int32), q + i = v → 1 + i ≤ s → s ≤ 1 + 1000 * i → M1 2 = nI t → M2 2 = nI t → M1 5 = x → M2 5 = x → M1 3 = M2 3 → M1 6 = nI s → M2 6 = nI s → M1 7 = nI (t + i) → M2 7 = nI (t + i) → T2 (fun k => x_GV k (e + 1) 11 8 M1 υ1) (fun k => x_GV k (e + 1) 11 8 M2 υ2) (EQ (178000 + (e + 1)) t w XC σ1 σ2) := by
        intro v w2 υ1 υ2 hv k1 k2 hw2 hJ2 q
        obtain ⟨p1, p2⟩ := EI_59 hJ2
        induction q with
        | zero =>
          intro i s M1 M2 hi hs1 hs2 m2 l2 m5 l5 m3 m6 l6 m7 l7
          refine T2_suc (fun k => e_setBrackets_8 k _ _ _) (fun k => e_setBrackets_8 k _ _ _) ?_
          rw [p1, p2, m7, l7]
          refine T2_ite Iff.rfl (fun _ _ => ?_) (fun z _ => absurd ((n_le (by omega) (by omega)).mpr (by omega)) z)
          refine T2_suc (fun k => e_setBrackets_9 k _ _ _) (fun k => e_setBrackets_9 k _ _ _) ?_
          rw [m6, l6]
          refine T2_ite Iff.rfl (fun z _ => ?_) (fun z _ => ?_)
          · have z := (n_le (q := 1000) (by omega) (by decide)).mp z
            refine T2_suc (fun k => e_setBrackets_10 k _ _ _) (fun k => e_setBrackets_10 k _ _ _) ?_
            refine T2_suc (fun k => e_setBrackets_11 k _ _ _) (fun k => e_setBrackets_11 k _ _ _) ?_
            refine T2_ite (c1 := (0 : Int32) = 0) (c2 := (0 : Int32) = 0) Iff.rfl (fun _ _ => ?_) (fun z _ => absurd rfl z)
            refine T2_suc (fun k => e_setBrackets_12 k _ _ _) (fun k => e_setBrackets_12 k _ _ _) ?_
            refine T2_suc (fun k => e_setBrackets_13 k _ _ _) (fun k => e_setBrackets_13 k _ _ _) ?_
            rw [p1, p2]
            exact b14 v w2 _ _ (mSc υ1 59 (nI (t + v))) (mSc υ2 59 (nI (t + v))) (by omega) m2 l2 m5 l5 m3 rfl (FE_tr k1 (f59 _ _)) (FE_tr k2 (f59 _ _)) hw2 (EI_dn (Nat.le_refl _) hJ2)
          · refine T2_suc (fun k => e_setBrackets_11 k _ _ _) (fun k => e_setBrackets_11 k _ _ _) ?_
            refine T2_ite (c1 := (1 : Int32) = 0) (c2 := (1 : Int32) = 0) Iff.rfl (fun z _ => absurd z (by decide)) (fun _ _ => ?_)
            refine T2_suc (fun k => e_setBrackets_13 k _ _ _) (fun k => e_setBrackets_13 k _ _ _) ?_
            have g : ∀ (A1 A2 : Nat → Int32), A1 100 = nI t → A2 100 = nI t → A1 2 = nI t → A2 2 = nI t → A1 5 = x → A2 5 = x → A1 3 = A2 3 → A1 4 = A2 4 → T2 (fun k => x_GV k (e + 1) 11 14 A1 (upd υ1.1 59 (A1 100), υ1.2.1, υ1.2.2)) (fun k => x_GV k (e + 1) 11 14 A2 (upd υ2.1 59 (A2 100), υ2.2.1, υ2.2.2)) (EQ (178000 + (e + 1)) t w XC σ1 σ2) := by
              intro A1 A2 a1 a1' a2 a2' a5 a5' a3 a4
              rw [a1, a1']
              exact b14 0 w2 _ _ (mSc υ1 59 (nI (t + 0))) (mSc υ2 59 (nI (t + 0))) (by omega) a2 a2' a5 a5' a3 a4 (FE_tr k1 (f59 _ _)) (FE_tr k2 (f59 _ _)) hw2 (EI_dn (by omega) hJ2)
            exact g _ _ m2 l2 m2 l2 m5 l5 m3 rfl
        | succ q ihq =>
          intro i s M1 M2 hi hs1 hs2 m2 l2 m5 l5 m3 m6 l6 m7 l7
          refine T2_suc (fun k => e_setBrackets_8 k _ _ _) (fun k => e_setBrackets_8 k _ _ _) ?_
          rw [p1, p2, m7, l7]
          refine T2_ite Iff.rfl (fun z _ => absurd ((n_le (by omega) (by omega)).mp z) (by omega)) (fun _ _ => ?_)
          refine T2_chk (n_in (by omega) (by omega)) (n_in (by omega) (by omega)) ?_
          rw [n_cl (p := t + i) (by omega)]
          have hJ3 := hJ2
          obtain ⟨gA, lA, BA, hA, XA, gB, lB, BB, hB, XB, hX⟩ := hJ3
          obtain ⟨va, vb, va1, va2, va3, va4, va5, va6, va7⟩ := hX.2.2.1.1 29 (t + i) (Or.inl ⟨rfl, by omega⟩) (by unfold VwR; omega)
          have sz := szN_b hX.1.1 va2
          refine T2_ob (T2_t (s_size hX.1.1 va2 (by exact va1)) (s_size hX.2.1.1 va4 (by exact va3))) (fun y1 y2 hy => ?_)
          rw [hy.1, hy.2, (EVb_sz va5).1, m6, l6]
          generalize szN (υ1.2.2 28) va = z1 at sz
          refine ihq (i + 1) (s + z1) _ _ (by omega) (by omega) (by omega) m2 l2 m5 l5 m3 ?_ ?_ ?_ ?_
          · show nI s + nI z1 = _; rw [n_add (by omega)]
          · show nI s + nI z1 = _; rw [n_add (by omega)]
          · show nI (t + i) + 1 = _; rw [n_add1]; rfl
          · show nI (t + i) + 1 = _; rw [n_add1]; rfl
      have b7 : ∀ (j' w2 : Nat) (M1 M2 : Nat → Int32) (υ1 υ2 : MS), j' ≤ 1200 → M1 2 = nI t → M2 2 = nI t → M1 5 = x → M2 5 = x → M1 3 = M2 3 → M1 4 = M2 4 → FE σ1 υ1 → FE σ2 υ2 → w ≤ w2 → EI (t + j') w2 XC υ1 υ2 → T2 (fun k => x_GV k (e + 1) 11 7 M1 υ1) (fun k => x_GV k (e + 1) 11 7 M2 υ2) (EQ (178000 + (e + 1)) t w XC σ1 σ2) := by
        intro j' w2 M1 M2 υ1 υ2 h1 m2 l2 m5 l5 m3 m4 k1 k2 hw2 hJ2
        obtain ⟨p1, p2⟩ := EI_59 hJ2
        refine T2_suc (fun k => e_setBrackets_7 k _ _ _) (fun k => e_setBrackets_7 k _ _ _) ?_
        rw [p1, p2, m2, l2, n_sub (by omega) (by omega)]
        refine T2_ite Iff.rfl (fun z _ => ?_) (fun z _ => ?_)
        · refine T2_ob (E_dis hJ2 (by omega) (by omega) rfl) (fun r1 r2 hr => ?_)
          obtain ⟨g1, g2, v, hv, hJ3⟩ := hr
          exact b8 v w2 r1.2 r2.2 (by omega) (FE_tr k1 g1) (FE_tr k2 g2) hw2 hJ3 v 0 1 _ _ (by omega) (by omega) (by omega) m2 l2 m5 l5 m3 rfl rfl rfl rfl
        · have hne : j' ≠ 1200 := fun y => z (by rw [y, show t + 1200 - t = 1200 by omega]; rfl)
          exact b14 j' w2 _ _ υ1 υ2 (by omega) m2 l2 m5 l5 m3 m4 k1 k2 hw2 hJ2
      have b5 : ∀ (w2 : Nat) (M1 M2 : Nat → Int32) (υ1 υ2 : MS), M1 2 = nI t → M2 2 = nI t → M1 5 = x → M2 5 = x → M1 100 = M2 100 → M1 4 = M2 4 → FE σ1 υ1 → FE σ2 υ2 → w ≤ w2 → EI (t + (j + 1)) w2 XC υ1 υ2 → T2 (fun k => x_GV k (e + 1) 11 5 M1 υ1) (fun k => x_GV k (e + 1) 11 5 M2 υ2) (EQ (178000 + (e + 1)) t w XC σ1 σ2) := by
        intro w2 M1 M2 υ1 υ2 m2 l2 m5 l5 m3 m4 k1 k2 hw2 hJ2
        obtain ⟨q1, q2⟩ := EI_e hJ2
        refine T2_suc (fun k => e_setBrackets_5 k _ _ _) (fun k => e_setBrackets_5 k _ _ _) ?_
        rw [q1, q2, m3, m4]
        refine T2_ite Iff.rfl (fun _ _ => ?_) (fun z _ => absurd rfl z)
        refine T2_ite Iff.rfl (fun _ _ => ?_) (fun _ _ => b6 (j + 1) w2 _ _ υ1 υ2 m2 l2 m5 l5 rfl m4 k1 k2 hw2 hJ2)
        exact T2_ite Iff.rfl (fun _ _ => b7 (j + 1) w2 _ _ υ1 υ2 (by omega) m2 l2 m5 l5 rfl m4 k1 k2 hw2 hJ2) (fun _ _ => b6 (j + 1) w2 _ _ υ1 υ2 m2 l2 m5 l5 rfl m4 k1 k2 hw2 hJ2)
      refine T2_suc (fun k => e_setBrackets_1 k _ _ _) (fun k => e_setBrackets_1 k _ _ _) ?_
      rw [n5, o5, e1, e2]
      refine T2_ite Iff.rfl (fun z _ => ?_) (fun _ _ => ?_)
      · rw [xc] at z
        have : (nI c).toInt = (-1 : Int32).toInt := by rw [z]
        rw [n_int (by omega), show (-1 : Int32).toInt = -1 from by decide] at this
        omega
      refine T2_ite Iff.rfl (fun _ _ => ?_) (fun z _ => absurd rfl z)
      refine T2_od ?_
      refine T2_ob (hE f (O - 1) 14 K lc x (t + j) w' XC τ1 τ2 _ _ W0 (PC_in (PC_fe hP f1 hw' (EI_w hJ)) hO (Nat.le_refl _) (by omega) (by omega) (by omega)) hJ rfl rfl) (fun r1 r2 hr => ?_)
      obtain ⟨g1, g2, hr⟩ := hr
      have k1 := FE_tr f1 g1
      have k2 := FE_tr f2 g2
      rcases hr with ⟨w2, hw2, hJ2⟩ | ⟨z1, z2⟩
      case inr =>
        refine T2_ite ⟨fun z => absurd z (EZ_e z1), fun z => absurd z (EZ_e z2)⟩ (fun z _ => absurd z (EZ_e z1)) (fun _ _ => ?_)
        have z1' : EZ t (178000 + e) r1.2 := EZ_mo z1 (by omega) (Nat.le_refl _)
        have z2' : EZ t (178000 + e) r2.2 := EZ_mo z2 (by omega) (Nat.le_refl _)
        refine T2_mono (T2_t (z_set2 z1' (by omega) (by omega) (by omega) n2 (n5.trans xc)) (z_set2 z2' (by omega) (by omega) (by omega) o2 (o5.trans xc))) (fun s1 s2 hs => ?_)
        obtain ⟨⟨y1, y2⟩, y3, y4⟩ := hs
        exact ⟨FE_tr k1 y1, FE_tr k2 y3, Or.inr ⟨EZ_mo y2 (Nat.le_refl _) (by omega), EZ_mo y4 (Nat.le_refl _) (by omega)⟩⟩
      obtain ⟨q1, q2⟩ := EI_e hJ2
      obtain ⟨p1, p2⟩ := EI_59 hJ2
      rw [q1, q2, p1, p2, n_sub1 (by omega)]
      refine T2_ite Iff.rfl (fun _ _ => ?_) (fun z _ => absurd rfl z)
      refine T2_chk (n_in (by omega) (by omega)) (n_in (by omega) (by omega)) ?_
      rw [n_cl (p := t + j) (by omega)]
      obtain ⟨gA, gB, vc⟩ := EI_top (i := t + j) (by omega) hJ2
      have b3 : T2 (fun k => x_GV k (e + 1) 11 3 N1 r1.2) (fun k => x_GV k (e + 1) 11 3 N2 r2.2) (EQ (178000 + (e + 1)) t w XC σ1 σ2) := by
        refine T2_suc (fun k => e_setBrackets_3 k _ _ _) (fun k => e_setBrackets_3 k _ _ _) ?_
        exact b5 w2 _ _ r1.2 r2.2 n2 o2 n5 o5 rfl n4 k1 k2 (by omega) hJ2
      refine T2_ite (VC_0 vc) (fun _ _ => b3) (fun _ _ => ?_)
      refine T2_suc (fun k => e_setBrackets_2 k _ _ _) (fun k => e_setBrackets_2 k _ _ _) ?_
      rw [n3]
      refine T2_ite Iff.rfl (fun _ _ => ?_) (fun _ _ => b3)
      refine T2_suc (fun k => e_setBrackets_4 k _ _ _) (fun k => e_setBrackets_4 k _ _ _) ?_
      exact b5 w2 _ _ r1.2 r2.2 n2 o2 n5 o5 rfl n4 k1 k2 (by omega) hJ2
  refine T2_suc (fun k => e_setBrackets_0 k _ _ _) (fun k => e_setBrackets_0 k _ _ _) ?_
  obtain ⟨p1, p2⟩ := EI_59 hI
  rw [d1, d2, p1, p2]
  refine T2_chk (n_in (by omega) (by omega)) (n_in (by omega) (by omega)) ?_
  rw [n_cl (p := n) (by omega), hS1.1 6 _ (by omega) (by omega) (by omega), hS2.1 6 _ (by omega) (by omega) (by omega)]
  exact b1 f0 m0 0 w (T 6 n) _ _ σ1 σ2 hW (by omega) rfl rfl rfl rfl rfl rfl FE_rf FE_rf (Nat.le_refl _) hI
end ESE
