section JnS213
/-! Evaluation on both sides (reference): sets in brackets. -/
section ESE
variable {T : Nat → Nat → Int32} {FN : Nat → Nat → Prop} {O r K d t u w XC : Nat} {lc : Nat → Prop} {σ1 σ2 τ1 τ2 : MS}
theorem b_set {n e f0 m0 : Nat} (hE : PE T FN e) (hn : (1 ≤ n ∧ n < LNo T % 70001)) (hO : 1 ≤ O) (hW : WN T FN f0 3 (O - 1) m0 K lc (T 6 n)) (hP : PC T FN O r K lc (e + 3) t w XC σ1) (hI : EI t w XC σ1 σ2) {L1 L2 : Nat → Int32} (d1 : L1 1 = nI n) (d2 : L2 1 = nI n) : T2 (fun k => x_GV k (e + 1) 11 0 L1 σ1) (fun k => x_GV k (e + 1) 11 0 L2 σ2) (EQ (178000 + (e + 1)) t w XC σ1 σ2) := by
  have ht := PC_t hP
  have hXC := hP.2.1
  have hd13 := hP.2.2.2.2.1
  have hS1 := hP.1
  have hS2 := EI_ST hI hS1
  have tb : ∀ (τ1 τ2 : MS), FE σ1 τ1 → FE σ2 τ2 → ∀ a i, 4 ≤ a → a ≤ 9 → (1 ≤ i ∧ i < LNo T % 70001) → τ1.2.2 a i = T a i ∧ τ2.2.2 a i = T a i := fun τ1 τ2 f1 f2 a i h1 h2 h3 => ⟨(STb_fe hS1 f1).1 a i h1 (by omega) ⟨fun _ => h3, fun z => by omega⟩, (STb_fe hS2 f2).1 a i h1 (by omega) ⟨fun _ => h3, fun z => by omega⟩⟩
  have f59 : ∀ (σ : MS) (x : Int32), FE σ (mSc σ 59 x) := fun σ x => FE_sc (Or.inr (Or.inr (Or.inl rfl)))
  have b18 : ∀ (N1 N2 : Nat → Int32) (v1 v2 : MS), EQ (178000 + (e + 1)) t w XC σ1 σ2 (0, v1) (0, v2) → T2 (fun k => x_GV k (e + 1) 11 18 N1 v1) (fun k => x_GV k (e + 1) 11 18 N2 v2) (EQ (178000 + (e + 1)) t w XC σ1 σ2) := fun N1 N2 v1 v2 h => by
    refine T2_suc (fun k => e_setBrackets_18 k _ _ _) (fun k => e_setBrackets_18 k _ _ _) ?_
    exact T2_some h
  have b17Z : ∀ (N1 N2 : Nat → Int32) (τ1 τ2 : MS), FE σ1 τ1 → FE σ2 τ2 → EZ t (178000 + e) τ1 → EZ t (178000 + e) τ2 → T2 (fun k => x_GV k (e + 1) 11 17 N1 τ1) (fun k => x_GV k (e + 1) 11 17 N2 τ2) (EQ (178000 + (e + 1)) t w XC σ1 σ2) := fun N1 N2 τ1 τ2 f1 f2 z1 z2 => by
    refine T2_suc (fun k => e_setBrackets_17 k _ _ _) (fun k => e_setBrackets_17 k _ _ _) ?_
    refine T2_ite ⟨fun z => absurd z (EZ_e z1), fun z => absurd z (EZ_e z2)⟩ (fun z _ => absurd z (EZ_e z1)) (fun _ _ => ?_)
    exact b18 _ _ _ _ ⟨f1, f2, Or.inr ⟨EZ_mo z1 (Nat.le_refl _) (by omega), EZ_mo z2 (Nat.le_refl _) (by omega)⟩⟩
  -- the set is made
  have b17 : ∀ (j w' : Nat) (N1 N2 : Nat → Int32) (τ1 τ2 : MS), j ≤ 1200 → N1 2 = nI t → N2 2 = nI t → FE σ1 τ1 → FE σ2 τ2 → w ≤ w' → EI (t + j) w' XC τ1 τ2 → T2 (fun k => x_GV k (e + 1) 11 17 N1 τ1) (fun k => x_GV k (e + 1) 11 17 N2 τ2) (EQ (178000 + (e + 1)) t w XC σ1 σ2) := by
    intro j w' N1 N2 τ1 τ2 hj n2 o2 f1 f2 hw' hJ
    obtain ⟨e1, e2⟩ := EI_e hJ
    refine T2_suc (fun k => e_setBrackets_17 k _ _ _) (fun k => e_setBrackets_17 k _ _ _) ?_
    rw [e1, e2]
    refine T2_ite Iff.rfl (fun _ _ => ?_) (fun z _ => absurd rfl z)
    refine T2_ob (E_sw hXC (by omega) hJ) (fun r1 r2 hr => ?_)
    obtain ⟨k1, k2, g1, l1, B1, h1, X1, g2, l2, B2, h2, X2, hX, rm1, rm2⟩ := hr
    obtain ⟨a1, a2, aR, i1, i2, t1, q1, q2, w1, hw, x1, x2, ⟨ty1, ty2⟩, a, y1, y2⟩ := hX
    have al : ∀ j, AlS j → r2.2.1 j = r1.2.1 j := fun j h => (aR.2.2.1 j h).symm
    have t2 : r2.2.1 59 = nI (t + j) := (al 59 (by unfold AlS; omega)).trans t1
    have w2 : r2.2.1 57 = nI w' := (al 57 (by unfold AlS; omega)).trans w1
    have pl : PlE g1 g2 r1.2 r2.2 t j := fun i hi => aR.1 29 (t + i) (Or.inl ⟨rfl, by omega⟩) (by unfold VwR; omega)
    have m1 : MI t X1 g1 l1 B1 h1 r1.2 := MI_mo a1 (by omega)
    have m2 : MI t X2 g2 l2 B2 h2 r2.2 := MI_mo a2 (by omega)
    rw [n2, o2]
    refine T2_ob (T2_of (s_setOf (L := upd (fun _ => 0) 1 (nI t)) a1.1 ⟨0, q1, by decide⟩ t1 (by omega) (by omega) (PlE_1 pl) rfl) (s_setOf (L := upd (fun _ => 0) 1 (nI t)) a2.1 ⟨0, q2, by decide⟩ t2 (by omega) (by omega) (PlE_2 pl) rfl) (fun n' => Pm_wl (fun k => wl_setOf k _ _ _) (fun k => wl_setOf k _ _ _) (k_setOf a1.1 a2.1 q1 q2 t1 t2 (by omega) (by omega) (by omega) (by omega) pl rfl rfl))) (fun s1 s2 hs => ?_)
    obtain ⟨⟨hq, wl1, wl2⟩, o1, o2'⟩ := hs
    have o1' := o1
    have o2'' := o2'
    obtain ⟨_, _, _, _, fw1, _⟩ := o1'
    obtain ⟨_, _, _, _, fw2, _⟩ := o2''
    have p57 : s1.2.1 57 = s2.2.1 57 := by rw [fw1.1 57 (by decide), fw2.1 57 (by decide), w1, w2]
    have p95 := fw1.1 95 (by decide)
    have p95' := fw2.1 95 (by decide)
    exact E_ans m1 m2 (RA_mo (by omega) aR) i1 i2 (by omega) ty1 ty2 ⟨a, p95.trans y1, y2⟩ (p95.trans ((aR.2.2.1 95 (by unfold AlS; omega)).trans p95'.symm)) (SO_of (W := 0) (by omega) m1 w1 hw.1 x1 (VQ_of o1)) (SO_of (W := 0) (by omega) m2 w2 hw.1 x2 (VQ_of o2')) ⟨KR_of (c := 8600) (VO_54 o1) (VO_54 o2') (by omega) hq p57, by rw [wl1, wl2]; exact aR.2.2.2⟩ (fun v1 v2 h1 h2 h => b18 _ _ _ _ (EQ_ans (FE_tr f1 k1) (FE_tr f2 k2) hw' (by omega) h1 h2 h))
  -- one member after another
  have b1 : ∀ (f m j w' : Nat) (x : Int32) (N1 N2 : Nat → Int32) (τ1 τ2 : MS), WN T FN f 3 (O - 1) m K lc x → j ≤ 1199 → N1 2 = nI t → N2 2 = nI t → N1 5 = x → N2 5 = x → N1 3 = N2 3 → N1 4 = N2 4 → FE σ1 τ1 → FE σ2 τ2 → w ≤ w' → EI (t + j) w' XC τ1 τ2 → T2 (fun k => x_GV k (e + 1) 11 1 N1 τ1) (fun k => x_GV k (e + 1) 11 1 N2 τ2) (EQ (178000 + (e + 1)) t w XC σ1 σ2) := by
    intro f
    induction f with
    | zero => intro m j w' x N1 N2 τ1 τ2 hW; exact hW.elim
    | succ f ih =>
      intro m j w' x N1 N2 τ1 τ2 hW hj n2 o2 n5 o5 n3 n4 f1 f2 hw' hJ
      unfold WN at hW
      rcases hW with ⟨z, _⟩ | ⟨z, _⟩ | ⟨z, _⟩ | ⟨_, hor⟩ | ⟨z, _⟩ | ⟨z, _⟩ | ⟨z, _⟩
      case inl => exact absurd z (by decide)
      case inr.inl => exact absurd z (by decide)
      case inr.inr.inl => exact absurd z (by decide)
      case inr.inr.inr.inr.inl => exact absurd z (by decide)
      case inr.inr.inr.inr.inr.inl => exact absurd z (by decide)
      case inr.inr.inr.inr.inr.inr => exact absurd z (by decide)
      obtain ⟨e1, e2⟩ := EI_e hJ
      rcases hor with ⟨_, xz⟩ | ⟨m', c, rm, xc, hc, W0, W9⟩
      · refine T2_suc (fun k => e_setBrackets_1 k _ _ _) (fun k => e_setBrackets_1 k _ _ _) ?_
        rw [n5, o5, xz]
        refine T2_ite Iff.rfl (fun _ _ => ?_) (fun z _ => absurd rfl z)
        refine T2_suc (fun k => e_setBrackets_15 k _ _ _) (fun k => e_setBrackets_15 k _ _ _) ?_
        rw [e1, e2, n3]
        refine T2_ite Iff.rfl (fun _ _ => ?_) (fun z _ => absurd rfl z)
        refine T2_ite Iff.rfl (fun _ _ => ?_) (fun _ _ => ?_)
        · refine T2_suc (fun k => e_setBrackets_16 k _ _ _) (fun k => e_setBrackets_16 k _ _ _) ?_
          rw [e1, e2, n4]
          refine T2_ite Iff.rfl (fun _ _ => ?_) (fun z _ => absurd rfl z)
          refine T2_ite Iff.rfl (fun _ _ => b17 j w' _ _ τ1 τ2 (by omega) n2 o2 f1 f2 hw' hJ) (fun _ _ => ?_)
          refine T2_ob (T2_t (s_fail _ _) (s_fail _ _)) (fun r1 r2 hr => ?_)
          rw [hr.1, hr.2]
          obtain ⟨z1, z2⟩ := E_er (a := t) (b := 178000 + e) (e := 5) hXC hJ (by decide) (by decide) (by omega) (by omega)
          exact b17Z _ _ _ _ (FE_tr f1 FE_er) (FE_tr f2 FE_er) z1 z2
        · refine T2_ob (T2_t (s_fail _ _) (s_fail _ _)) (fun r1 r2 hr => ?_)
          rw [hr.1, hr.2]
          obtain ⟨z1, z2⟩ := E_er (a := t) (b := 178000 + e) (e := 3) hXC hJ (by decide) (by decide) (by omega) (by omega)
          exact b17Z _ _ _ _ (FE_tr f1 FE_er) (FE_tr f2 FE_er) z1 z2
      -- the next
      have b14 : ∀ (j' w2 : Nat) (M1 M2 : Nat → Int32) (υ1 υ2 : MS), j' ≤ 1199 → M1 2 = nI t → M2 2 = nI t → M1 5 = x → M2 5 = x → M1 3 = M2 3 → M1 4 = M2 4 → FE σ1 υ1 → FE σ2 υ2 → w ≤ w2 → EI (t + j') w2 XC υ1 υ2 → T2 (fun k => x_GV k (e + 1) 11 14 M1 υ1) (fun k => x_GV k (e + 1) 11 14 M2 υ2) (EQ (178000 + (e + 1)) t w XC σ1 σ2) := by
        intro j' w2 M1 M2 υ1 υ2 h1 m2 l2 m5 l5 m3 m4 k1 k2 hw2 hJ2
        refine T2_suc (fun k => e_setBrackets_14 k _ _ _) (fun k => e_setBrackets_14 k _ _ _) ?_
        rw [m5, l5, xc]
        refine T2_chk (n_in (by omega) (by omega)) (n_in (by omega) (by omega)) ?_
        rw [n_cl (p := c) (by omega), (tb _ _ k1 k2 9 _ (by omega) (by omega) (by omega)).1, (tb _ _ k1 k2 9 _ (by omega) (by omega) (by omega)).2]
        exact ih m' j' w2 (T 9 c) _ _ υ1 υ2 W9 h1 m2 l2 rfl rfl m3 m4 k1 k2 hw2 hJ2
      have b6 : ∀ (j' w2 : Nat) (M1 M2 : Nat → Int32) (υ1 υ2 : MS), M1 2 = nI t → M2 2 = nI t → M1 5 = x → M2 5 = x → M1 3 = M2 3 → M1 4 = M2 4 → FE σ1 υ1 → FE σ2 υ2 → w ≤ w2 → EI (t + j') w2 XC υ1 υ2 → T2 (fun k => x_GV k (e + 1) 11 6 M1 υ1) (fun k => x_GV k (e + 1) 11 6 M2 υ2) (EQ (178000 + (e + 1)) t w XC σ1 σ2) := by
        intro j' w2 M1 M2 υ1 υ2 m2 l2 m5 l5 m3 m4 k1 k2 hw2 hJ2
        refine T2_suc (fun k => e_setBrackets_6 k _ _ _) (fun k => e_setBrackets_6 k _ _ _) ?_
        rw [m2, l2]
        exact b14 0 w2 _ _ (mSc υ1 59 (nI (t + 0))) (mSc υ2 59 (nI (t + 0))) (by omega) m2 l2 m5 l5 m3 m4 (FE_tr k1 (f59 _ _)) (FE_tr k2 (f59 _ _)) hw2 (EI_dn (by omega) hJ2)
      -- 1200 upon the pile: sizes are summed up
      have b8 : ∀ (v w2 : Nat) (υ1 υ2 : MS), v ≤ 1200 → FE σ1 υ1 → FE σ2 υ2 → w ≤ w2 → EI (t + v) w2 XC υ1 υ2 → ∀ (q i s : Nat) (M1 M2 : Nat → Int32), q + i = v → 1 + i ≤ s → s ≤ 1 + 1000 * i → M1 2 = nI t → M2 2 = nI t → M1 5 = x → M2 5 = x → M1 3 = M2 3 → M1 6 = nI s → M2 6 = nI s → M1 7 = nI (t + i) → M2 7 = nI (t + i) → T2 (fun k => x_GV k (e + 1) 11 8 M1 υ1) (fun k => x_GV k (e + 1) 11 8 M2 υ2) (EQ (178000 + (e + 1)) t w XC σ1 σ2) := by
        intro v w2 υ1 υ2 hv k1 k2 hw2 hJ2 q
        obtain ⟨p1, p2⟩ := EI_59 hJ2
        induction q with
        | zero =>
          intro i s M1 M2 hi hs1 hs2 m2 l2 m5 l5 m3 m6 l6 m7 l7
          refine T2_suc (fun k => e_setBrackets_8 k _ _ _) (fun k => e_setBrackets_8 k _ _ _) ?_
          rw [p1, p2, m7, l7]
          refine T2_ite Iff.rfl (fun _ _ => ?_) (fun z _ => absurd ((n_le (by omega) (by omega)).mpr (by omega)) z)
          refine T2_suc (fun k => e_setBrackets_9 k _ _ _) (fun k => e_setBrackets_9 k _ _ _) ?_
          rw [m6, l6]
          refine T2_ite Iff.rfl (fun z _ => ?_) (fun z _ => ?_)
          · have z := (n_le (q := 1000) (by omega) (by decide)).mp z
            refine T2_suc (fun k => e_setBrackets_10 k _ _ _) (fun k => e_setBrackets_10 k _ _ _) ?_
            refine T2_suc (fun k => e_setBrackets_11 k _ _ _) (fun k => e_setBrackets_11 k _ _ _) ?_
            refine T2_ite (c1 := (0 : Int32) = 0) (c2 := (0 : Int32) = 0) Iff.rfl (fun _ _ => ?_) (fun z _ => absurd rfl z)
            refine T2_suc (fun k => e_setBrackets_12 k _ _ _) (fun k => e_setBrackets_12 k _ _ _) ?_
            refine T2_suc (fun k => e_setBrackets_13 k _ _ _) (fun k => e_setBrackets_13 k _ _ _) ?_
            rw [p1, p2]
            exact b14 v w2 _ _ (mSc υ1 59 (nI (t + v))) (mSc υ2 59 (nI (t + v))) (by omega) m2 l2 m5 l5 m3 rfl (FE_tr k1 (f59 _ _)) (FE_tr k2 (f59 _ _)) hw2 (EI_dn (Nat.le_refl _) hJ2)
          · refine T2_suc (fun k => e_setBrackets_11 k _ _ _) (fun k => e_setBrackets_11 k _ _ _) ?_
            refine T2_ite (c1 := (1 : Int32) = 0) (c2 := (1 : Int32) = 0) Iff.rfl (fun z _ => absurd z (by decide)) (fun _ _ => ?_)
            refine T2_suc (fun k => e_setBrackets_13 k _ _ _) (fun k => e_setBrackets_13 k _ _ _) ?_
            have g : ∀ (A1 A2 : Nat → Int32), A1 100 = nI t → A2 100 = nI t → A1 2 = nI t → A2 2 = nI t → A1 5 = x → A2 5 = x → A1 3 = A2 3 → A1 4 = A2 4 → T2 (fun k => x_GV k (e + 1) 11 14 A1 (upd υ1.1 59 (A1 100), υ1.2.1, υ1.2.2)) (fun k => x_GV k (e + 1) 11 14 A2 (upd υ2.1 59 (A2 100), υ2.2.1, υ2.2.2)) (EQ (178000 + (e + 1)) t w XC σ1 σ2) := by
              intro A1 A2 a1 a1' a2 a2' a5 a5' a3 a4
              rw [a1, a1']
              exact b14 0 w2 _ _ (mSc υ1 59 (nI (t + 0))) (mSc υ2 59 (nI (t + 0))) (by omega) a2 a2' a5 a5' a3 a4 (FE_tr k1 (f59 _ _)) (FE_tr k2 (f59 _ _)) hw2 (EI_dn (by omega) hJ2)
            exact g _ _ m2 l2 m2 l2 m5 l5 m3 rfl
        | succ q ihq =>
          intro i s M1 M2 hi hs1 hs2 m2 l2 m5 l5 m3 m6 l6 m7 l7
          refine T2_suc (fun k => e_setBrackets_8 k _ _ _) (fun k => e_setBrackets_8 k _ _ _) ?_
          rw [p1, p2, m7, l7]
          refine T2_ite Iff.rfl (fun z _ => absurd ((n_le (by omega) (by omega)).mp z) (by omega)) (fun _ _ => ?_)
          refine T2_chk (n_in (by omega) (by omega)) (n_in (by omega) (by omega)) ?_
          rw [n_cl (p := t + i) (by omega)]
          have hJ3 := hJ2
          obtain ⟨gA, lA, BA, hA, XA, gB, lB, BB, hB, XB, hX⟩ := hJ3
          obtain ⟨va, vb, va1, va2, va3, va4, va5, va6, va7⟩ := hX.2.2.1.1 29 (t + i) (Or.inl ⟨rfl, by omega⟩) (by unfold VwR; omega)
          have sz := szN_b hX.1.1 va2
          refine T2_ob (T2_t (s_size hX.1.1 va2 (by exact va1)) (s_size hX.2.1.1 va4 (by exact va3))) (fun y1 y2 hy => ?_)
          rw [hy.1, hy.2, (EVb_sz va5).1, m6, l6]
          generalize szN (υ1.2.2 28) va = z1 at sz
          refine ihq (i + 1) (s + z1) _ _ (by omega) (by omega) (by omega) m2 l2 m5 l5 m3 ?_ ?_ ?_ ?_
          · show nI s + nI z1 = _; rw [n_add (by omega)]
          · show nI s + nI z1 = _; rw [n_add (by omega)]
          · show nI (t + i) + 1 = _; rw [n_add1]; rfl
          · show nI (t + i) + 1 = _; rw [n_add1]; rfl
      have b7 : ∀ (j' w2 : Nat) (M1 M2 : Nat → Int32) (υ1 υ2 : MS), j' ≤ 1200 → M1 2 = nI t → M2 2 = nI t → M1 5 = x → M2 5 = x → M1 3 = M2 3 → M1 4 = M2 4 → FE σ1 υ1 → FE σ2 υ2 → w ≤ w2 → EI (t + j') w2 XC υ1 υ2 → T2 (fun k => x_GV k (e + 1) 11 7 M1 υ1) (fun k => x_GV k (e + 1) 11 7 M2 υ2) (EQ (178000 + (e + 1)) t w XC σ1 σ2) := by
        intro j' w2 M1 M2 υ1 υ2 h1 m2 l2 m5 l5 m3 m4 k1 k2 hw2 hJ2
        obtain ⟨p1, p2⟩ := EI_59 hJ2
        refine T2_suc (fun k => e_setBrackets_7 k _ _ _) (fun k => e_setBrackets_7 k _ _ _) ?_
        rw [p1, p2, m2, l2, n_sub (by omega) (by omega)]
        refine T2_ite Iff.rfl (fun z _ => ?_) (fun z _ => ?_)
        · refine T2_ob (E_dis hJ2 (by omega) (by omega) rfl) (fun r1 r2 hr => ?_)
          obtain ⟨g1, g2, v, hv, hJ3⟩ := hr
          exact b8 v w2 r1.2 r2.2 (by omega) (FE_tr k1 g1) (FE_tr k2 g2) hw2 hJ3 v 0 1 _ _ (by omega) (by omega) (by omega) m2 l2 m5 l5 m3 rfl rfl rfl rfl
        · have hne : j' ≠ 1200 := fun y => z (by rw [y, show t + 1200 - t = 1200 by omega]; rfl)
          exact b14 j' w2 _ _ υ1 υ2 (by omega) m2 l2 m5 l5 m3 m4 k1 k2 hw2 hJ2
      have b5 : ∀ (w2 : Nat) (M1 M2 : Nat → Int32) (υ1 υ2 : MS), M1 2 = nI t → M2 2 = nI t → M1 5 = x → M2 5 = x → M1 100 = M2 100 → M1 4 = M2 4 → FE σ1 υ1 → FE σ2 υ2 → w ≤ w2 → EI (t + (j + 1)) w2 XC υ1 υ2 → T2 (fun k => x_GV k (e + 1) 11 5 M1 υ1) (fun k => x_GV k (e + 1) 11 5 M2 υ2) (EQ (178000 + (e + 1)) t w XC σ1 σ2) := by
        intro w2 M1 M2 υ1 υ2 m2 l2 m5 l5 m3 m4 k1 k2 hw2 hJ2
        obtain ⟨q1, q2⟩ := EI_e hJ2
        refine T2_suc (fun k => e_setBrackets_5 k _ _ _) (fun k => e_setBrackets_5 k _ _ _) ?_
        rw [q1, q2, m3, m4]
        refine T2_ite Iff.rfl (fun _ _ => ?_) (fun z _ => absurd rfl z)
        refine T2_ite Iff.rfl (fun _ _ => ?_) (fun _ _ => b6 (j + 1) w2 _ _ υ1 υ2 m2 l2 m5 l5 rfl m4 k1 k2 hw2 hJ2)
        exact T2_ite Iff.rfl (fun _ _ => b7 (j + 1) w2 _ _ υ1 υ2 (by omega) m2 l2 m5 l5 rfl m4 k1 k2 hw2 hJ2) (fun _ _ => b6 (j + 1) w2 _ _ υ1 υ2 m2 l2 m5 l5 rfl m4 k1 k2 hw2 hJ2)
      refine T2_suc (fun k => e_setBrackets_1 k _ _ _) (fun k => e_setBrackets_1 k _ _ _) ?_
      rw [n5, o5, e1, e2]
      refine T2_ite Iff.rfl (fun z _ => ?_) (fun _ _ => ?_)
      · rw [xc] at z
        have : (nI c).toInt = (-1 : Int32).toInt := by rw [z]
        rw [n_int (by omega), show (-1 : Int32).toInt = -1 from by decide] at this
        omega
      refine T2_ite Iff.rfl (fun _ _ => ?_) (fun z _ => absurd rfl z)
      refine T2_od ?_
      refine T2_ob (hE f (O - 1) 14 K lc x (t + j) w' XC τ1 τ2 _ _ W0 (PC_in (PC_fe hP f1 hw' (EI_w hJ)) hO (Nat.le_refl _) (by omega) (by omega) (by omega)) hJ rfl rfl) (fun r1 r2 hr => ?_)
      obtain ⟨g1, g2, hr⟩ := hr
      have k1 := FE_tr f1 g1
      have k2 := FE_tr f2 g2
      rcases hr with ⟨w2, hw2, hJ2⟩ | ⟨z1, z2⟩
      case inr =>
        refine T2_ite ⟨fun z => absurd z (EZ_e z1), fun z => absurd z (EZ_e z2)⟩ (fun z _ => absurd z (EZ_e z1)) (fun _ _ => ?_)
        have z1' : EZ t (178000 + e) r1.2 := EZ_mo z1 (by omega) (Nat.le_refl _)
        have z2' : EZ t (178000 + e) r2.2 := EZ_mo z2 (by omega) (Nat.le_refl _)
        refine T2_mono (T2_t (z_set2 z1' (by omega) (by omega) (by omega) n2 (n5.trans xc)) (z_set2 z2' (by omega) (by omega) (by omega) o2 (o5.trans xc))) (fun s1 s2 hs => ?_)
        obtain ⟨⟨y1, y2⟩, y3, y4⟩ := hs
        exact ⟨FE_tr k1 y1, FE_tr k2 y3, Or.inr ⟨EZ_mo y2 (Nat.le_refl _) (by omega), EZ_mo y4 (Nat.le_refl _) (by omega)⟩⟩
      obtain ⟨q1, q2⟩ := EI_e hJ2
      obtain ⟨p1, p2⟩ := EI_59 hJ2
      rw [q1, q2, p1, p2, n_sub1 (by omega)]
      refine T2_ite Iff.rfl (fun _ _ => ?_) (fun z _ => absurd rfl z)
      refine T2_chk (n_in (by omega) (by omega)) (n_in (by omega) (by omega)) ?_
      rw [n_cl (p := t + j) (by omega)]
      obtain ⟨gA, gB, vc⟩ := EI_top (i := t + j) (by omega) hJ2
      have b3 : T2 (fun k => x_GV k (e + 1) 11 3 N1 r1.2) (fun k => x_GV k (e + 1) 11 3 N2 r2.2) (EQ (178000 + (e + 1)) t w XC σ1 σ2) := by
        refine T2_suc (fun k => e_setBrackets_3 k _ _ _) (fun k => e_setBrackets_3 k _ _ _) ?_
        exact b5 w2 _ _ r1.2 r2.2 n2 o2 n5 o5 rfl n4 k1 k2 (by omega) hJ2
      refine T2_ite (VC_0 vc) (fun _ _ => b3) (fun _ _ => ?_)
      refine T2_suc (fun k => e_setBrackets_2 k _ _ _) (fun k => e_setBrackets_2 k _ _ _) ?_
      rw [n3]
      refine T2_ite Iff.rfl (fun _ _ => ?_) (fun _ _ => b3)
      refine T2_suc (fun k => e_setBrackets_4 k _ _ _) (fun k => e_setBrackets_4 k _ _ _) ?_
      exact b5 w2 _ _ r1.2 r2.2 n2 o2 n5 o5 rfl n4 k1 k2 (by omega) hJ2
  refine T2_suc (fun k => e_setBrackets_0 k _ _ _) (fun k => e_setBrackets_0 k _ _ _) ?_
  obtain ⟨p1, p2⟩ := EI_59 hI
  rw [d1, d2, p1, p2]
  refine T2_chk (n_in (by omega) (by omega)) (n_in (by omega) (by omega)) ?_
  rw [n_cl (p := n) (by omega), hS1.1 6 _ (by omega) (by omega) (by omega), hS2.1 6 _ (by omega) (by omega) (by omega)]
  exact b1 f0 m0 0 w (T 6 n) _ _ σ1 σ2 hW (by omega) rfl rfl rfl rfl rfl rfl FE_rf FE_rf (Nat.le_refl _) hI
end ESE
end JnS213
section JnS214
/-! Evaluation on both sides (reference): iterators are opened. -/
section AND
variable {g1 g2 : Nat → Option (Int32 × MS)} {P Q : Int32 × MS → Int32 × MS → Prop}
theorem T2_and (a : T2 g1 g2 P) (b : T2 g1 g2 Q) : T2 g1 g2 (fun r1 r2 => P r1 r2 ∧ Q r1 r2) := by
  obtain ⟨r1, r2, N, a1, a2, a3⟩ := a
  obtain ⟨s1, s2, M, b1, b2, b3⟩ := b
  have e1 : r1 = s1 := Option.some.inj ((a1 (N + M) (by omega)).symm.trans (b1 (N + M) (by omega)))
  have e2 : r2 = s2 := Option.some.inj ((a2 (N + M) (by omega)).symm.trans (b2 (N + M) (by omega)))
  subst e1
  subst e2
  exact ⟨r1, r2, N, a1, a2, a3, b3⟩
end AND
/-- what stays while iterators are opened and closed above e0 -/
def FI (N : Nat → Nat → Prop) (e0 : Nat) (σ ρ : MS) : Prop := (∀ j, AlS j → j ≠ 57 → j ≠ 59 → j ≠ 95 → j ≠ 72 → ρ.1 j = σ.1 j) ∧ (∀ a i, AlR a → ¬ Zn a i → ¬ ((a = 35 ∨ a = 50) ∧ e0 ≤ i) → ρ.2.2 a i = σ.2.2 a i) ∧ ρ.2.2 2 = σ.2.2 2 ∧ KPn N σ ρ
section FIS
variable {T : Nat → Nat → Int32} {FN : Nat → Nat → Prop} {O r K d t u w XC : Nat} {lc : Nat → Prop} {σ σ1 σ2 τ τ1 τ2 ρ : MS} {e0 e1 : Nat} {N N' : Nat → Nat → Prop}
theorem FI_b (a : FI N e0 σ τ) : FB0 σ τ := ⟨a.1 63 (by unfold AlS; omega) (by decide) (by decide) (by decide) (by decide), kC_c (fun i => a.2.1 20 i (by unfold AlR; omega) (by unfold Zn; omega) (by omega)) (fun i _ => a.2.1 21 i (by unfold AlR; omega) (by unfold Zn; omega) (by omega)) (a.1 30 (by unfold AlS; omega) (by decide) (by decide) (by decide) (by decide)), fun i h => a.2.1 30 i (by unfold AlR; omega) h (by omega), fun i h => a.2.1 31 i (by unfold AlR; omega) h (by omega)⟩
theorem FI_rf : FI N e0 σ σ := ⟨fun _ _ _ _ _ _ => rfl, fun _ _ _ _ _ => rfl, rfl, KPn_same rfl (fun _ _ => rfl)⟩
theorem FI_tr (a : FI N e0 σ τ) (b : FI N e0 τ ρ) : FI N e0 σ ρ := ⟨fun j h1 h2 h3 h4 h5 => (b.1 j h1 h2 h3 h4 h5).trans (a.1 j h1 h2 h3 h4 h5), fun x i h1 h2 h3 => (b.2.1 x i h1 h2 h3).trans (a.2.1 x i h1 h2 h3), b.2.2.1.trans a.2.2.1, KPn_tr (FI_b a) a.2.2.2 b.2.2.2⟩
theorem FI_mo (h : e0 ≤ e1) (a : FI N e1 σ ρ) : FI N e0 σ ρ := ⟨a.1, fun x i h1 h2 h3 => a.2.1 x i h1 h2 (fun z => h3 ⟨z.1, by omega⟩), a.2.2⟩
theorem FI_w (h : FI NoN e0 σ ρ) : FI N e0 σ ρ := ⟨h.1, h.2.1, h.2.2.1, KPn_mo (fun _ _ z => z.elim) h.2.2.2⟩
theorem FI_fen (h : FEn N σ ρ) (h72 : σ.1 72 = nI e1) (h4 : e1 ≤ 4000) (he : e0 ≤ e1) : FI N e0 σ ρ := ⟨fun j h1 h2 h3 h4 _ => h.1 j h1 h2 h3 h4, fun x i h1 h2 h3 => h.2.1 x i h1 h2 (fun z => h3 ⟨z.1, by rw [h72, n_cl (p := e1) (by omega)] at z; omega⟩), h.2.2⟩
theorem FI_fe (h : FE σ ρ) (h72 : σ.1 72 = nI e1) (h4 : e1 ≤ 4000) (he : e0 ≤ e1) : FI N e0 σ ρ := FI_fen (FE_n h) h72 h4 he
theorem FE_fi (h : FI N e0 σ ρ) (hN : ∀ a i, N a i → ρ.2.2 a i = 0 ∧ NU σ a i) (h72 : σ.1 72 = nI e0) (h4 : e0 ≤ 4000) (hs : ρ.1 72 = σ.1 72) : FE σ ρ := by
  refine ⟨fun j h1 h2 h3 h5 => ?_, fun x i h1 h2 h3 => h.2.1 x i h1 h2 (by rw [h72, n_cl (p := e0) (by omega)] at h3; exact h3), h.2.2.1, fun a i hr _ => ?_⟩
  · by_cases e : j = 72
    · rw [e]; exact hs
    · exact h.1 j h1 h2 h3 h5 e
  · by_cases c : N a i
    · exact Or.inr (hN a i c)
    · exact h.2.2.2 a i hr c
theorem FI_72 {x : Int32} : FI N e0 σ (mSc σ 72 x) := ⟨fun j _ _ _ _ h => upd_other h, fun _ _ _ _ _ => rfl, rfl, KPn_same rfl (fun _ _ => rfl)⟩
theorem FI_50 {i : Nat} {x : Int32} (hi : e0 ≤ i) : FI N e0 σ (mAr σ 50 i x) := by
  refine ⟨fun _ _ _ _ _ _ => rfl, fun a j h1 h2 h3 => ?_, mAr_o (by decide), KPn_same (mAr_o (by decide)) (fun a h => mAr_o (by omega))⟩
  by_cases e : a = 50
  · subst e; rw [mAr_s, upd_other (fun c => h3 ⟨Or.inr rfl, by omega⟩)]
  · rw [mAr_o e]
theorem FI_35 {i : Nat} {x : Int32} (hi : e0 ≤ i) : FI N e0 σ (mAr σ 35 i x) := by
  refine ⟨fun _ _ _ _ _ _ => rfl, fun a j h1 h2 h3 => ?_, mAr_o (by decide), KPn_same (mAr_o (by decide)) (fun a h => mAr_o (by omega))⟩
  by_cases e : a = 35
  · subst e; rw [mAr_s, upd_other (fun c => h3 ⟨Or.inl rfl, by omega⟩)]
  · rw [mAr_o e]
theorem FI_34 {i : Nat} {x : Int32} : FI N e0 σ (mAr σ 34 i x) := by
  refine ⟨fun _ _ _ _ _ _ => rfl, fun a j h1 h2 h3 => ?_, mAr_o (by decide), KPn_same (mAr_o (by decide)) (fun a h => mAr_o (by omega))⟩
  by_cases e : a = 34
  · exact absurd (Or.inr (Or.inl e)) h2
  · rw [mAr_o e]
theorem STb_fi (hS : STb T FN σ) (hF : FI N e0 σ ρ) : STb T FN ρ := STb_b hS (fun j hj => hF.1 j (by unfold AlS; omega) (by omega) (by omega) (by omega) (by omega)) (fun a i h => hF.2.1 a i (by unfold AlR; omega) (by unfold Zn; omega) (fun z => by omega))
theorem Cx_72 {fu dp e e' : Nat} (hC : Cx lc fu dp e σ) : Cx lc fu dp e' (mSc σ 72 (nI e')) := by
  obtain ⟨c1, c2, c3, c4, c5, c6, c7⟩ := hC
  exact ⟨c1, c2, c3, c4, rfl, c6, c7⟩
theorem Cx_fi {fu dp e e' : Nat} (hC : Cx lc fu dp e σ) (hF : FI N e0 σ ρ) (h72 : ρ.1 72 = nI e') : Cx lc fu dp e' ρ := by
  have sc : ∀ j, AlS j → j ≠ 57 → j ≠ 59 → j ≠ 95 → j ≠ 72 → ρ.1 j = σ.1 j := hF.1
  refine Cx_b (Cx_72 (e' := e') hC) (fun j hj => ?_) (FI_b hF).2.1 (fun i h _ => (FI_b hF).2.2.1 i h)
  by_cases c : j = 72
  · rw [c]; exact h72
  · rw [sc j (by unfold AlS; omega) (by omega) (by omega) (by omega) c]; exact (upd_other c).symm
/-- one level further in, j iterators more being open -/
theorem PC_fi {j w' t' d' K' XC' : Nat} (h : PC T FN O r K lc d t w XC σ) (h72 : σ.1 72 = nI e0) (h4 : e0 ≤ 4000) (hF : FI N e0 σ ρ) (r72 : ρ.1 72 = nI (e0 + j)) (h1 : 1 ≤ O) (hK : K' + j ≤ K) (hw : w ≤ w') (hw2 : w' ≤ 60000) (ht : t' + w ≤ t + 1200 + w') (hd : d ≤ d' + 5) (hd2 : d' ≤ d) (hX : XC' + 5 * d' ≤ 408500) : PC T FN (O - 1) 14 K' lc d' t' w' XC' ρ := by
  obtain ⟨a1, a2, a3, a4, a5, a6, a7, fu, dp, e, c1, c2, c3, c4⟩ := h
  have cd := c1.2.2.2.1
  have cf := c1.2.1
  have ee : e = e0 := (n_eq (by omega) (by omega)).mp (c1.2.2.2.2.1.symm.trans h72)
  subst ee
  exact ⟨STb_fi a1 hF, by omega, by omega, by omega, by omega, by omega, hw2, fu, dp, e + j, Cx_fi c1 hF r72, by omega, by omega, by omega⟩
theorem PC_e {e : Nat} (h : PC T FN O r K lc d t w XC σ) : ∃ e, σ.1 72 = nI e ∧ e + K ≤ 1260 := by
  obtain ⟨a1, a2, a3, a4, a5, a6, a7, fu, dp, e, c1, c2, c3, c4⟩ := h
  have cf := c1.2.1
  exact ⟨e, c1.2.2.2.2.1, by omega⟩
/-- the iterators of a former, one after another -/
def Its (T : Nat → Nat → Int32) (FN : Nat → Nat → Prop) (O m K : Nat) (lc : Nat → Prop) (it : Nat → Nat) : Prop := ∀ i, i < m → (1 ≤ it i ∧ it i < LNo T % 70001) ∧ i + 1 ≤ K ∧ (∃ q f, (1 ≤ q ∧ q ≤ 70000) ∧ WN T FN f 6 O q (K - i) lc (T 6 (it i))) ∧ (∃ f, WN T FN f 0 O 14 (K - i) lc (T 7 (it i))) ∧ (i + 1 < m → T 9 (it i) = nI (it (i + 1))) ∧ (i + 1 = m → T 9 (it i) = -1)
theorem WN_it : ∀ (f m K : Nat) (x : Int32), WN T FN f 4 O m K lc x → (m = 0 ∧ x = -1) ∨ (1 ≤ m ∧ ∃ it, x = nI (it 0) ∧ Its T FN O m K lc it) := by
  intro f
  induction f with
  | zero => intro m K x h; exact h.elim
  | succ f ih =>
    intro m K x hW
    unfold WN at hW
    rcases hW with ⟨z, _⟩ | ⟨z, _⟩ | ⟨z, _⟩ | ⟨z, _⟩ | ⟨_, hor⟩ | ⟨z, _⟩ | ⟨z, _⟩
    case inl => exact absurd z (by decide)
    case inr.inl => exact absurd z (by decide)
    case inr.inr.inl => exact absurd z (by decide)
    case inr.inr.inr.inl => exact absurd z (by decide)
    case inr.inr.inr.inr.inr.inl => exact absurd z (by decide)
    case inr.inr.inr.inr.inr.inr => exact absurd z (by decide)
    rcases hor with z | ⟨m', n, q, rm, xn, hn, hK, hq, W6, W7, W9⟩
    · exact Or.inl z
    refine Or.inr ⟨by omega, ?_⟩
    rcases ih m' (K - 1) (T 9 n) W9 with ⟨z1, z2⟩ | ⟨z1, it, z2, z3⟩
    · refine ⟨fun _ => n, xn, fun i hi => ?_⟩
      have hi0 : i = 0 := by omega
      subst hi0
      exact ⟨hn, by omega, ⟨q, f, hq, W6⟩, ⟨f, W7⟩, fun y => by omega, fun _ => z2⟩
    · refine ⟨fun i => if i = 0 then n else it (i - 1), xn, fun i hi => ?_⟩
      by_cases hi0 : i = 0
      · subst hi0
        exact ⟨hn, by omega, ⟨q, f, hq, W6⟩, ⟨f, W7⟩, fun _ => z2, fun y => by omega⟩
      · obtain ⟨y1, y2, y3, y4, y5, y6⟩ := z3 (i - 1) (by omega)
        show (1 ≤ (if i = 0 then n else it (i - 1)) ∧ (if i = 0 then n else it (i - 1)) < LNo T % 70001) ∧ i + 1 ≤ K ∧ (∃ q f, (1 ≤ q ∧ q ≤ 70000) ∧ WN T FN f 6 O q (K - i) lc (T 6 (if i = 0 then n else it (i - 1)))) ∧ (∃ f, WN T FN f 0 O 14 (K - i) lc (T 7 (if i = 0 then n else it (i - 1)))) ∧ (i + 1 < m → T 9 (if i = 0 then n else it (i - 1)) = nI (if i + 1 = 0 then n else it (i + 1 - 1))) ∧ (i + 1 = m → T 9 (if i = 0 then n else it (i - 1)) = -1)
        rw [if_neg hi0, if_neg (by omega), show i + 1 - 1 = i - 1 + 1 by omega]
        rw [show K - 1 - (i - 1) = K - i by omega] at y3 y4
        exact ⟨y1, by omega, y3, y4, fun y => y5 (by omega), fun y => y6 (by omega)⟩
/-- a row? -/
theorem s_isRow {g : Nat → Prop} {l : List Nat} {B h m : Nat} (hS : HS g l B h σ) (hm : m < 3 ∨ g m) {L : Nat → Int32} (hL : L 1 = nI m) : Tm (fun k => x_isRow k 0 L σ) (fun r => r.2 = σ ∧ ((r.1 = 0 ∧ kdN (σ.2.2 28) m < 4) ∨ (r.1 = 1 ∧ 4 ≤ kdN (σ.2.2 28) m))) := by
  have k6 := kdN_6 hS hm
  refine Tm_suc (fun k => by rw [x_isRow]) ?_
  refine Tm_ob (s_kind hS hm (by exact hL)) (fun r hr => ?_)
  rw [hr]
  refine Tm_ite (fun z => ?_) (fun z => ?_)
  · have z := (n_lt (q := 4) (by omega) (by decide)).mp z
    refine Tm_suc (fun k => by rw [x_isRow]) ?_
    refine Tm_suc (fun k => by rw [x_isRow]) ?_
    exact Tm_chk (Or.inl rfl) (Tm_some ⟨rfl, Or.inl ⟨rfl, z⟩⟩)
  · have z : 4 ≤ kdN (σ.2.2 28) m := by
      by_cases y : kdN (σ.2.2 28) m < 4
      · exact absurd ((n_lt (q := 4) (by omega) (by decide)).mpr y) z
      · omega
    refine Tm_suc (fun k => by rw [x_isRow]) ?_
    exact Tm_chk (Or.inr rfl) (Tm_some ⟨rfl, Or.inr ⟨rfl, z⟩⟩)
/-- an iterator more -/
def mIt (σ : MS) (e : Nat) (x : Int32) : MS := mSc (mAr (mAr σ 34 e x) 35 e 0) 72 (nI (e + 1))
theorem mIt_s {j e : Nat} {x : Int32} (h : j ≠ 72) : (mIt σ e x).1 j = σ.1 j := upd_other h
theorem mIt_r {a e : Nat} {x : Int32} (h : a ≠ 34) (h' : a ≠ 35) : (mIt σ e x).2.2 a = σ.2.2 a := by
  show (mAr (mAr σ 34 e x) 35 e 0).2.2 a = _
  rw [mAr_o h', mAr_o h]
theorem mIt_34 {e : Nat} {x : Int32} : (mIt σ e x).2.2 34 = upd (σ.2.2 34) e x := by
  show (mAr (mAr σ 34 e x) 35 e 0).2.2 34 = _
  rw [mAr_o (by decide), mAr_s]
theorem mIt_35 {e : Nat} {x : Int32} : (mIt σ e x).2.2 35 = upd (σ.2.2 35) e 0 := by
  show (mAr (mAr σ 34 e x) 35 e 0).2.2 35 = _
  rw [mAr_s, mAr_o (by decide)]
theorem FI_it {e : Nat} {x : Int32} (he : e0 ≤ e) : FI N e0 σ (mIt σ e x) := FI_tr FI_34 (FI_tr (FI_35 he) FI_72)
theorem RtP_it {e a i : Nat} {x : Int32} (h72 : σ.1 72 = nI e) (he : e < 4000) (hR : RtP t (mIt σ e x) a i) : (a = 34 ∧ i = e) ∨ ((a ≠ 34 ∨ i < e) ∧ a ≠ 35 ∧ RtP t σ a i) := by
  have e1 : ((mIt σ e x).1 72).toNatClampNeg = e + 1 := n_cl (p := e + 1) (by omega)
  have e2 : (σ.1 72).toNatClampNeg = e := by rw [h72]; exact n_cl (by omega)
  unfold RtP at hR ⊢
  rw [e1, mIt_s (by decide), mIt_r (by decide) (by decide), mIt_r (by decide) (by decide)] at hR
  rw [e2]
  rcases hR with z | z | z | z | z | z | z | z | z
  · exact Or.inr ⟨Or.inl (by omega), by omega, Or.inl z⟩
  · exact Or.inr ⟨Or.inl (by omega), by omega, Or.inr (Or.inl z)⟩
  · exact Or.inr ⟨Or.inl (by have := z.1; omega), by have := z.1; omega, Or.inr (Or.inr (Or.inl z))⟩
  · exact Or.inr ⟨Or.inl (by omega), by omega, Or.inr (Or.inr (Or.inr (Or.inl z)))⟩
  · by_cases c : i = e
    · exact Or.inl ⟨z.1, c⟩
    · exact Or.inr ⟨Or.inr (by omega), by omega, Or.inr (Or.inr (Or.inr (Or.inr (Or.inl ⟨z.1, by omega⟩))))⟩
  · exact Or.inr ⟨Or.inl (by omega), by omega, Or.inr (Or.inr (Or.inr (Or.inr (Or.inr (Or.inl z)))))⟩
  · exact Or.inr ⟨Or.inl (by omega), by omega, Or.inr (Or.inr (Or.inr (Or.inr (Or.inr (Or.inr (Or.inl z))))))⟩
  · exact Or.inr ⟨Or.inl (by omega), by omega, Or.inr (Or.inr (Or.inr (Or.inr (Or.inr (Or.inr (Or.inr (Or.inl z)))))))⟩
  · exact Or.inr ⟨Or.inl (by omega), by omega, Or.inr (Or.inr (Or.inr (Or.inr (Or.inr (Or.inr (Or.inr (Or.inr z)))))))⟩
theorem mIt_v {e a i : Nat} {x : Int32} (h : (a ≠ 34 ∨ i < e) ∧ a ≠ 35) : (mIt σ e x).2.2 a i = σ.2.2 a i := by
  by_cases c : a = 34
  · subst c
    rw [mIt_34, upd_other (by omega)]
  · rw [mIt_r c h.2]
theorem RtQ_it {e : Nat} {x : Int32} (he : e < 4000) (hQ : RtQ σ) : RtQ (mIt σ e x) := by
  obtain ⟨P, e', q1, q2, q3, q4, q5, q6⟩ := hQ
  refine ⟨P, e + 1, (mIt_s (by decide)).trans q1, q2, rfl, by omega, ?_, ?_⟩
  · rw [mIt_r (by decide) (by decide)]; exact q5
  · rw [mIt_r (by decide) (by decide)]; exact q6
/-- one side: what lies at the top becomes an iterator's row -/
theorem MI_it {g : Nat → Prop} {l : List Nat} {B h X e : Nat} {x : Int32} (hM : MI (t + 1) X g l B h σ) (h72 : σ.1 72 = nI e) (he : e < 4000) (hx : σ.2.2 29 t = x) : MI t X g l B h (mIt σ e x) := by
  refine MI_re hM (mIt_s (by decide)) (mIt_s (by decide)) (mIt_r (by decide) (by decide)) (RtQ_it he hM.2.1) (fun a i z => ?_)
  rcases RtP_it h72 he z with ⟨z1, z2⟩ | ⟨z1, z2, z3⟩
  · subst z1
    subst z2
    rw [mIt_34, upd_same, ← hx]; exact MI_rt hM (Or.inl ⟨rfl, by omega⟩)
  · rw [mIt_v ⟨z1, z2⟩]; exact MI_rt hM (RtP_mo (by omega) z3)
theorem IT_it {g : Nat → Prop} {l : List Nat} {B h e v : Nat} (hS : HS g l B h σ) (hI : IT g σ) (h72 : σ.1 72 = nI e) (he : e < 4000) (gv : g v) (hk : 4 ≤ kdN (σ.2.2 28) v) : IT g (mIt σ e (nI v)) := by
  obtain ⟨e', q1, q2, q3⟩ := hI
  have ee : e' = e := (n_eq (by omega) (by omega)).mp (q1.symm.trans h72)
  subst ee
  refine ⟨e' + 1, rfl, by omega, fun i hi => ?_⟩
  rw [mIt_34, mIt_35, mIt_r (by decide) (by decide)]
  by_cases c : i = e'
  · subst c
    rw [upd_same, upd_same]
    obtain ⟨k, n, s, t', G, _⟩ := HS_at hS gv
    exact ⟨v, 0, n, rfl, gv, hk, G.2.1, G.2.2.2.2.2.2.2.1, rfl, by omega⟩
  · rw [upd_other c, upd_other c]
    exact q3 i (by omega)
theorem EI_it {g1 g2 : Nat → Prop} {l1 l2 : List Nat} {B1 h1 X1 B2 h2 X2 e v1 v2 : Nat} (hX : EIx (t + 1) w XC σ1 σ2 g1 l1 B1 h1 X1 g2 l2 B2 h2 X2) (h72 : σ1.1 72 = nI e) (he : e < 4000) (y1 : σ1.2.2 29 t = nI v1) (y2 : σ2.2.2 29 t = nI v2) (gv1 : g1 v1) (gv2 : g2 v2) (k1 : 4 ≤ kdN (σ1.2.2 28) v1) (k2 : 4 ≤ kdN (σ2.2.2 28) v2) : EI t w XC (mIt (mSc σ1 59 (nI t)) e (nI v1)) (mIt (mSc σ2 59 (nI t)) e (nI v2)) := by
  obtain ⟨m1, m2, hR, i1, i2, t1, e1, e2, w1, hw, x1, x2, ⟨ty1, ty2⟩, a, a1, a2⟩ := hX
  have g72 : σ2.1 72 = nI e := (hR.2.2.1 72 (by unfold AlS; omega)).symm.trans h72
  have n1 : MI t X1 g1 l1 B1 h1 (mIt (mSc σ1 59 (nI t)) e (nI v1)) := MI_it (MI_59 m1) h72 he y1
  have n2 : MI t X2 g2 l2 B2 h2 (mIt (mSc σ2 59 (nI t)) e (nI v2)) := MI_it (MI_59 m2) g72 he y2
  refine ⟨g1, l1, B1, h1, X1, g2, l2, B2, h2, X2, n1, n2, ⟨fun x i z hv => ?_, fun x i hx hz hn => ?_, fun j hj => ?_, hR.2.2.2⟩, IT_it (HS_c m1.1 rfl rfl rfl) (IT_c rfl rfl rfl rfl i1) h72 he gv1 k1, IT_it (HS_c m2.1 rfl rfl rfl) (IT_c rfl rfl rfl rfl i2) g72 he gv2 k2, rfl, ?_, ?_, ?_, hw, x1, x2, ⟨?_, ?_⟩, a, ?_, a2⟩
  · rw [mIt_r (a := 28) (by decide) (by decide), mIt_r (a := 28) (by decide) (by decide)]
    rcases RtP_it (σ := mSc σ1 59 (nI t)) h72 he z with ⟨z1, z2⟩ | ⟨z1, z2, z3⟩
    · subst z1
      subst z2
      rw [mIt_34, mIt_34, upd_same, upd_same, ← y1, ← y2]; exact hR.1 29 t (Or.inl ⟨rfl, by omega⟩) (by unfold VwR; omega)
    · rw [mIt_v ⟨z1, z2⟩, mIt_v ⟨z1, z2⟩]
      exact hR.1 x i (RtP_mo (show t ≤ t + 1 by omega) ((RtP_c (σ := σ1) (τ := mSc σ1 59 (nI t)) rfl rfl rfl rfl x i).mp z3)) hv
  · have s72 : (mIt (mSc σ1 59 (nI t)) e (nI v1)).1 72 = nI (e + 1) := rfl
    by_cases c : x = 34
    · exact absurd (Or.inr (Or.inl c)) hz
    by_cases c' : x = 35
    · subst c'
      rw [mIt_35, mIt_35]
      by_cases c2 : i = e
      · rw [c2, upd_same, upd_same]
      · rw [upd_other c2, upd_other c2]
        refine hR.2.1 35 i hx hz (fun z => hn ?_)
        unfold InA at z ⊢
        rw [h72, n_cl (p := e) (by omega)] at z
        rw [s72, n_cl (p := e + 1) (by omega)]
        omega
    · rw [mIt_r c c', mIt_r c c']
      refine hR.2.1 x i hx hz (fun z => hn ?_)
      have i30 : (mIt (mSc σ1 59 (nI t)) e (nI v1)).2.2 30 = σ1.2.2 30 := mIt_r (by decide) (by decide)
      have i31 : (mIt (mSc σ1 59 (nI t)) e (nI v1)).2.2 31 = σ1.2.2 31 := mIt_r (by decide) (by decide)
      have s63 : (mIt (mSc σ1 59 (nI t)) e (nI v1)).1 63 = σ1.1 63 := (mIt_s (by decide)).trans rfl
      have s22 : (mIt (mSc σ1 59 (nI t)) e (nI v1)).1 22 = σ1.1 22 := (mIt_s (by decide)).trans rfl
      have s24 : (mIt (mSc σ1 59 (nI t)) e (nI v1)).1 24 = σ1.1 24 := (mIt_s (by decide)).trans rfl
      have s30 : (mIt (mSc σ1 59 (nI t)) e (nI v1)).1 30 = σ1.1 30 := (mIt_s (by decide)).trans rfl
      have s44 : (mIt (mSc σ1 59 (nI t)) e (nI v1)).1 44 = σ1.1 44 := (mIt_s (by decide)).trans rfl
      have i21 : (mIt (mSc σ1 59 (nI t)) e (nI v1)).2.2 21 = σ1.2.2 21 := mIt_r (by decide) (by decide)
      unfold InA at z ⊢
      rw [i30, i31, i21, s63, s22, s24, s30, s44]
      rcases z with z | z | z | z | z
      · exact Or.inl z
      · exact Or.inr (Or.inl z)
      · exact Or.inr (Or.inr (Or.inl z))
      · exact absurd z.1 c'
      · exact Or.inr (Or.inr (Or.inr (Or.inr z)))
  · by_cases c : j = 72
    · rw [c]; rfl
    · rw [mIt_s c, mIt_s c]
      show upd σ1.1 59 (nI t) j = upd σ2.1 59 (nI t) j
      by_cases c2 : j = 59
      · rw [c2, upd_same, upd_same]
      · rw [upd_other c2, upd_other c2]; exact hR.2.2.1 j hj
  · rw [mIt_s (by decide)]; exact e1
  · rw [mIt_s (by decide)]; exact e2
  · rw [mIt_s (by decide)]; exact w1
  · rw [mIt_r (by decide) (by decide)]; exact ty1
  · rw [mIt_r (by decide) (by decide), mIt_r (by decide) (by decide)]; exact ty2
  · rw [mIt_s (by decide)]; exact a1
end FIS
end JnS214
section JnS215
/-! Evaluation on both sides (reference): an iterator's row is evaluated; what an iterator gives is bound. -/
/-- behind an iterator's opening -/
def OpQ (b e' t w XC : Nat) (σ1 σ2 : MS) (r1 r2 : Int32 × MS) : Prop := FI NoN e' σ1 r1.2 ∧ FI NoN e' σ2 r2.2 ∧ ((∃ w', w ≤ w' ∧ EI t w' XC r1.2 r2.2 ∧ r1.2.1 72 = nI (e' + 1)) ∨ (EZ t b r1.2 ∧ EZ t b r2.2 ∧ r1.2.1 72 = nI e' ∧ r2.2.1 72 = nI e'))
section EOP
variable {T : Nat → Nat → Int32} {FN : Nat → Nat → Prop} {O r K d t u w XC : Nat} {lc : Nat → Prop} {σ σ1 σ2 τ τ1 τ2 ρ : MS}
theorem E_open {n e e' f : Nat} (hE : PE T FN e) (hn : (1 ≤ n ∧ n < LNo T % 70001)) (hW : WN T FN f 0 O r K lc (T 7 n)) (hP : PC T FN O r K lc e t w XC σ1) (hI : EI t w XC σ1 σ2) (h72 : σ1.1 72 = nI e') (he' : e' < 4000) {L1 L2 : Nat → Int32} (d1 : L1 1 = nI n) (d2 : L2 1 = nI n) : T2 (fun k => x_GV k (e + 1) 9 0 L1 σ1) (fun k => x_GV k (e + 1) 9 0 L2 σ2) (OpQ (178000 + e) e' t w XC σ1 σ2) := by
  have ht := PC_t hP
  have hXC := hP.2.1
  have hS1 := hP.1
  have hS2 := EI_ST hI hS1
  have g72 : σ2.1 72 = nI e' := by
    obtain ⟨_, _, _, _, _, _, _, _, _, _, _, _, hR, _⟩ := hI
    exact (hR.2.2.1 72 (by unfold AlS; omega)).symm.trans h72
  refine T2_suc (fun k => e_openIter_0 k _ _ _) (fun k => e_openIter_0 k _ _ _) ?_
  rw [d1, d2]
  refine T2_chk (n_in (by omega) (by omega)) (n_in (by omega) (by omega)) ?_
  rw [n_cl (p := n) (by omega), hS1.1 7 _ (by omega) (by omega) (by omega), hS2.1 7 _ (by omega) (by omega) (by omega)]
  refine T2_od ?_
  refine T2_ob (hE f O r K lc (T 7 n) t w XC σ1 σ2 _ _ hW hP hI rfl rfl) (fun r1 r2 hr => ?_)
  obtain ⟨f1, f2, hr⟩ := hr
  have s72 : r1.2.1 72 = nI e' := (f1.1 72 (by unfold AlS; omega) (by decide) (by decide) (by decide)).trans h72
  have u72 : r2.2.1 72 = nI e' := (f2.1 72 (by unfold AlS; omega) (by decide) (by decide) (by decide)).trans g72
  have i1 : FI NoN e' σ1 r1.2 := FI_fe f1 h72 (by omega) (Nat.le_refl _)
  have i2 : FI NoN e' σ2 r2.2 := FI_fe f2 g72 (by omega) (Nat.le_refl _)
  rcases hr with ⟨w2, hw2, hJ⟩ | ⟨z1, z2⟩
  case inr =>
    refine T2_ite ⟨fun z => absurd z (EZ_le z1), fun z => absurd z (EZ_le z2)⟩ (fun z _ => absurd z (EZ_le z1)) (fun _ _ => ?_)
    exact T2_some ⟨i1, i2, Or.inr ⟨z1, z2, s72, u72⟩⟩
  obtain ⟨q1, q2⟩ := EI_e hJ
  obtain ⟨p1, p2⟩ := EI_59 hJ
  rw [q1, q2]
  refine T2_ite Iff.rfl (fun _ _ => ?_) (fun z _ => absurd (by decide : (0 : Int32) ≤ 0) z)
  refine T2_suc (fun k => e_openIter_1 k _ _ _) (fun k => e_openIter_1 k _ _ _) ?_
  refine T2_ob (T2_t (s_pop p1 (by omega) _) (s_pop p2 (by omega) _)) (fun u1 u2 hu => ?_)
  rw [hu.1, hu.2]
  have hD := EI_dn (show t ≤ t + 1 by omega) hJ
  obtain ⟨gA, lA, BA, hA, XA, gB, lB, BB, hB, XB, hX⟩ := hJ
  obtain ⟨va, vb, va1, va2, va3, va4, va5, va6, va7⟩ := hX.2.2.1.1 29 t (Or.inl ⟨rfl, by omega⟩) (by unfold VwR; omega)
  have k2e : kdN (r2.2.2.2 28) vb = kdN (r1.2.2.2 28) va := (EVb_sz va5).2.2
  refine T2_ob (T2_t (s_isRow (σ := mSc r1.2 59 (nI t)) (HS_c hX.1.1 rfl rfl rfl) va2 (by exact va1)) (s_isRow (σ := mSc r2.2 59 (nI t)) (HS_c hX.2.1.1 rfl rfl rfl) va4 (by exact va3))) (fun y1 y2 hy => ?_)
  obtain ⟨⟨hy1, hy2⟩, hy3, hy4⟩ := hy
  have hy2 : (y1.1 = 0 ∧ kdN (r1.2.2.2 28) va < 4) ∨ (y1.1 = 1 ∧ 4 ≤ kdN (r1.2.2.2 28) va) := hy2
  have hy4 : (y2.1 = 0 ∧ kdN (r2.2.2.2 28) vb < 4) ∨ (y2.1 = 1 ∧ 4 ≤ kdN (r2.2.2.2 28) vb) := hy4
  rw [hy1, hy3]
  have f59 : ∀ σ : MS, FI NoN e' σ (mSc σ 59 (nI t)) := fun σ => ⟨fun j _ _ h _ _ => upd_other h, fun _ _ _ _ _ => rfl, rfl, KPn_same rfl (fun _ _ => rfl)⟩
  refine T2_ite ⟨fun z => ?_, fun z => ?_⟩ (fun z z' => ?_) (fun z z' => ?_)
  · rcases hy2 with y | y
    · rcases hy4 with x | x
      · exact x.1
      · omega
    · rw [y.1] at z; exact absurd z (by decide)
  · rcases hy4 with y | y
    · rcases hy2 with x | x
      · exact x.1
      · omega
    · rw [y.1] at z; exact absurd z (by decide)
  · refine T2_ob (T2_t (s_fail _ _) (s_fail _ _)) (fun s1 s2 hs => ?_)
    rw [hs.1, hs.2]
    obtain ⟨z1, z2⟩ := E_er (a := t) (b := 178000 + e) (e := 1) hXC hD (by decide) (by decide) (Nat.le_refl _) (by omega)
    have fe : ∀ (σ : MS) (x : Int32), FI NoN e' σ (mEr σ x) := fun σ x => ⟨fun j h _ _ _ _ => mEr_s (by unfold AlS at h; omega), fun _ _ _ _ _ => rfl, rfl, KPn_same rfl (fun _ _ => rfl)⟩
    exact T2_some ⟨FI_tr i1 (FI_tr (f59 _) (fe _ _)), FI_tr i2 (FI_tr (f59 _) (fe _ _)), Or.inr ⟨z1, z2, (mEr_s (by decide)).trans s72, (mEr_s (by decide)).trans u72⟩⟩
  · have ka : 4 ≤ kdN (r1.2.2.2 28) va := by
      rcases hy2 with y | y
      · exact absurd y.1 z
      · exact y.2
    have kb : 4 ≤ kdN (r2.2.2.2 28) vb := by rw [k2e]; exact ka
    have hK := EI_it hX s72 he' va1 va3 (kdN_ge hX.1.1 va2 (by omega)) (kdN_ge hX.2.1.1 va4 (by omega)) ka kb
    have opn : ∀ (M1 M2 : Nat → Int32) (ρ1 ρ2 : MS), ρ1.1 72 = nI e' → ρ2.1 72 = nI e' → T2 (fun k => x_GV k (e + 1) 9 2 M1 ρ1) (fun k => x_GV k (e + 1) 9 2 M2 ρ2) (fun s1 s2 => s1 = (0, mIt ρ1 e' (M1 2)) ∧ s2 = (0, mIt ρ2 e' (M2 2))) := by
      intro M1 M2 ρ1 ρ2 c1 c2
      refine T2_suc (fun k => e_openIter_2 k _ _ _) (fun k => e_openIter_2 k _ _ _) ?_
      rw [c1, c2]
      refine T2_chk (n_in (by omega) (by omega)) (n_in (by omega) (by omega)) ?_
      rw [n_cl (p := e') (by omega)]
      show T2 (fun k => x_GV k (e + 1) 9 3 M1 (mAr ρ1 34 e' (M1 2))) (fun k => x_GV k (e + 1) 9 3 M2 (mAr ρ2 34 e' (M2 2))) _
      refine T2_suc (fun k => e_openIter_3 k _ _ _) (fun k => e_openIter_3 k _ _ _) ?_
      rw [show (mAr ρ1 34 e' (M1 2)).1 72 = nI e' from c1, show (mAr ρ2 34 e' (M2 2)).1 72 = nI e' from c2]
      refine T2_chk (n_in (by omega) (by omega)) (n_in (by omega) (by omega)) ?_
      rw [n_cl (p := e') (by omega)]
      show T2 (fun k => x_GV k (e + 1) 9 4 M1 (mAr (mAr ρ1 34 e' (M1 2)) 35 e' 0)) (fun k => x_GV k (e + 1) 9 4 M2 (mAr (mAr ρ2 34 e' (M2 2)) 35 e' 0)) _
      refine T2_suc (fun k => e_openIter_4 k _ _ _) (fun k => e_openIter_4 k _ _ _) ?_
      rw [show (mAr (mAr ρ1 34 e' (M1 2)) 35 e' 0).1 72 = nI e' from c1, show (mAr (mAr ρ2 34 e' (M2 2)) 35 e' 0).1 72 = nI e' from c2, n_add1]
      exact T2_some ⟨rfl, rfl⟩
    refine T2_mono (opn _ _ _ _ (by exact s72) (by exact u72)) (fun s1 s2 hs => ?_)
    rw [hs.1, hs.2]
    show OpQ (178000 + e) e' t w XC σ1 σ2 (0, mIt (mSc r1.2 59 (nI t)) e' (r1.2.2.2 29 t)) (0, mIt (mSc r2.2 59 (nI t)) e' (r2.2.2.2 29 t))
    rw [va1, va3]
    exact ⟨FI_tr i1 (FI_tr (f59 _) (FI_it (Nat.le_refl _))), FI_tr i2 (FI_tr (f59 _) (FI_it (Nat.le_refl _))), Or.inl ⟨w2, hw2, hK, rfl⟩⟩
/-- what an iterator gives: a member of its row; it and its members can be reached -/
theorem IT_val {g1 g2 : Nat → Prop} {l1 l2 : List Nat} {B1 h1 X1 B2 h2 X2 e i0 v1 v2 k p : Nat} (hX : EIx t w XC σ1 σ2 g1 l1 B1 h1 X1 g2 l2 B2 h2 X2) (h72 : σ1.1 72 = nI e) (he : e ≤ 4000) (hi : i0 < e) (a1 : σ1.2.2 34 i0 = nI v1) (a2 : σ2.2.2 34 i0 = nI v2) (b1 : v1 < 1740000) (b2 : v2 < 1740000) (k5 : 5 ≤ kdN (σ1.2.2 28) v1) (hp : σ1.2.2 28 (v1 + 1) = nI p) (hp2 : p ≤ 3996) (hk : k < p) :
    ∃ a b, σ1.2.2 28 (v1 + 4 + k) = nI a ∧ σ2.2.2 28 (v2 + 4 + k) = nI b ∧ (a < 3 ∨ g1 a) ∧ (b < 3 ∨ g2 b) ∧ EVb (σ1.2.2 28) (σ2.2.2 28) a b ∧ VC g1 g2 (σ1.2.2 28) (σ2.2.2 28) (nI a) (nI b) ∧ (a < 3 ∨ Rch (σ1.2.2 28) (RoS t σ1) a) ∧ (b < 3 ∨ Rch (σ2.2.2 28) (RoS t σ2) b) ∧ (kdN (σ1.2.2 28) a = 5 → ∃ q, σ1.2.2 28 (a + 1) = nI q ∧ σ2.2.2 28 (b + 1) = nI q ∧ q ≤ 3996 ∧ a + 4 + q ≤ 1740000 ∧ b + 4 + q ≤ 1740000 ∧ ∀ i, i < q → VC g1 g2 (σ1.2.2 28) (σ2.2.2 28) (σ1.2.2 28 (a + 4 + i)) (σ2.2.2 28 (b + 4 + i)) ∧ (∃ m, σ1.2.2 28 (a + 4 + i) = nI m ∧ (m < 3 ∨ Rch (σ1.2.2 28) (RoS t σ1) m)) ∧ ∃ m, σ2.2.2 28 (b + 4 + i) = nI m ∧ (m < 3 ∨ Rch (σ2.2.2 28) (RoS t σ2) m)) := by
  obtain ⟨m1, m2, hR, _⟩ := hX
  have e2 : (σ1.1 72).toNatClampNeg = e := by rw [h72]; exact n_cl (by omega)
  have rt1 : RtP t σ1 34 i0 := by
    unfold RtP
    rw [e2]
    exact Or.inr (Or.inr (Or.inr (Or.inr (Or.inl ⟨rfl, hi⟩))))
  have rt2 := (RA_rt m1.2.1 hR t 34 i0).mpr rt1
  obtain ⟨x1, x2, y1, y2, y3, y4, y5, y6, y7⟩ := hR.1 34 i0 rt1 (by unfold VwR; omega)
  have ex1 : x1 = v1 := (n_eq (by omega) (by omega)).mp (y1.symm.trans a1)
  have ex2 : x2 = v2 := (n_eq (by omega) (by omega)).mp (y3.symm.trans a2)
  subst ex1
  subst ex2
  obtain ⟨kk, p', hO⟩ := OE_of m1.1 m2.1 (kdN_ge m1.1 y2 (by omega)) y4 y5
  obtain ⟨gv1, gv2, o3, o4, o5, o6, o7, o8, o9, o10, o11, o12, o13, o14, o15, o16, o17⟩ := hO
  have ep : p' = p := (n_eq (by omega) (by omega)).mp (o11.symm.trans hp)
  subst ep
  obtain ⟨a, b, c1, c2, c3, c4, c5, c6, c7⟩ := o16 (by omega) k hk
  have r1 : Rch (σ1.2.2 28) (RoS t σ1) x1 := Rch_b ⟨o3, by omega, 34, i0, rt1, a1⟩
  have r2 : Rch (σ2.2.2 28) (RoS t σ2) x2 := Rch_b ⟨o4, by omega, 34, i0, rt2, a2⟩
  have ra := Rch_mem m1.1 r1 k5 gv1 o11 o6 hk c1 c2
  have rb := Rch_mem m2.1 r2 (by rw [o8]; omega) gv2 o12 o6 hk c3 c4
  refine ⟨a, b, c1, c3, c2, c4, c5, ⟨a, b, rfl, c2, rfl, c4, c5, c6, c7⟩, ra, rb, fun ka => ?_⟩
  have ga := kdN_ge m1.1 c2 (by omega)
  have gb := kdN_ge m2.1 c4 (by rw [(EVb_sz c5).2.2]; omega)
  obtain ⟨kq, q, hQ⟩ := OE_of m1.1 m2.1 ga c4 c5
  obtain ⟨_, _, q3, q4, q5, q6, q7, q8, q9, q10, q11, q12, q13, q14, q15, q16, q17⟩ := hQ
  refine ⟨q, q11, q12, q6, q13, q14, fun i hi => ?_⟩
  obtain ⟨c, d', s1, s2, s3, s4, s5, s6, s7⟩ := q16 (by omega) i hi
  refine ⟨⟨c, d', s1, s2, s3, s4, s5, s6, s7⟩, ⟨c, s1, ?_⟩, ⟨d', s3, ?_⟩⟩
  · exact Rch_mem m1.1 (ra.resolve_left (by omega)) (by omega) ga q11 q6 hi s1 s2
  · exact Rch_mem m2.1 (rb.resolve_left (by omega)) (by omega) gb q12 q6 hi s3 s4
end EOP
end JnS215
section JnS216
/-! Evaluation on both sides (reference): what an iterator gives is bound. -/
section EBN
variable {T : Nat → Nat → Int32} {FN : Nat → Nat → Prop} {O r K d t u w XC : Nat} {lc : Nat → Prop} {σ σ1 σ2 τ τ1 τ2 ρ : MS}
theorem WN_6 {f q : Nat} {x : Int32} (h : WN T FN f 6 O q K lc x) : (q = 0 ∧ x = -1) ∨ ∃ m n s f', q = m + 1 ∧ x = nI n ∧ (1 ≤ n ∧ n < LNo T % 70001) ∧ T 6 n = nI s ∧ s < 60 ∧ ((T 5 n = 0 ∨ lc 0) ∧ lc (if T 5 n = 0 then 1 + s else 61 + s)) ∧ WN T FN f' 6 O m K lc (T 9 n) := by
  cases f with
  | zero => exact h.elim
  | succ f =>
    unfold WN at h
    rcases h with ⟨z, _⟩ | ⟨z, _⟩ | ⟨z, _⟩ | ⟨z, _⟩ | ⟨z, _⟩ | ⟨z, _⟩ | ⟨_, hor⟩
    case inl => exact absurd z (by decide)
    case inr.inl => exact absurd z (by decide)
    case inr.inr.inl => exact absurd z (by decide)
    case inr.inr.inr.inl => exact absurd z (by decide)
    case inr.inr.inr.inr.inl => exact absurd z (by decide)
    case inr.inr.inr.inr.inr.inl => exact absurd z (by decide)
    rcases hor with z | ⟨m, n, s, a1, a2, a3, a4, a5, a6, a7⟩
    · exact Or.inl z
    · exact Or.inr ⟨m, n, s, f, a1, a2, a3, a4, a5, a6, a7⟩
theorem n_neg {c : Nat} (h : (1 ≤ c ∧ c < LNo T % 70001)) : ¬ nI c = -1 := by
  intro z
  have : (nI c).toInt = (-1 : Int32).toInt := by rw [z]
  rw [n_int (by omega), show (-1 : Int32).toInt = -1 from by decide] at this
  omega
/-- n is a name of the list that begins at x -/
def Nin (T : Nat → Nat → Int32) : Nat → Int32 → Nat → Prop
  | 0, _, _ => False
  | q + 1, x, n => ∃ c, (1 ≤ c ∧ c < LNo T % 70001) ∧ x = nI c ∧ (n = c ∨ Nin T q (T 9 c) n)
/-- places of the names of a list -/
def NmP (T : Nat → Nat → Int32) (σ : MS) (x : Int32) (a i : Nat) : Prop := ∃ q n, Nin T q x n ∧ NPl T σ n a i
theorem NmP_1 {c a i : Nat} {x : Int32} (hc : (1 ≤ c ∧ c < LNo T % 70001)) (hx : x = nI c) : NmP T σ x a i ↔ (NPl T σ c a i ∨ NmP T σ (T 9 c) a i) := by
  constructor
  · rintro ⟨q, n, h, hp⟩
    cases q with
    | zero => exact h.elim
    | succ q =>
      obtain ⟨c', c1, c2, c3⟩ := h
      have e : c' = c := (n_eq (by omega) (by omega)).mp (c2.symm.trans hx)
      subst e
      rcases c3 with c3 | c3
      · subst c3; exact Or.inl hp
      · exact Or.inr ⟨q, n, c3, hp⟩
  · rintro (hp | ⟨q, n, h, hp⟩)
    · exact ⟨1, c, ⟨c, hc, hx, Or.inl rfl⟩, hp⟩
    · exact ⟨q + 1, n, ⟨c, hc, hx, Or.inr h⟩, hp⟩
theorem NmP_0 {a i : Nat} : ¬ NmP T σ (-1) a i := by
  rintro ⟨q, n, h, hp⟩
  cases q with
  | zero => exact h.elim
  | succ q =>
    obtain ⟨c', c1, c2, c3⟩ := h
    exact n_neg c1 c2.symm
theorem NmP_c {a i : Nat} {x : Int32} (h69 : τ.1 69 = σ.1 69) (h67 : τ.1 67 = σ.1 67) (h1 : τ.2.2 30 1 = σ.2.2 30 1) : NmP T τ x a i ↔ NmP T σ x a i := by
  unfold NmP
  constructor
  · rintro ⟨q, n, h, hp⟩; exact ⟨q, n, h, (NPl_c h69 h67 h1).mp hp⟩
  · rintro ⟨q, n, h, hp⟩; exact ⟨q, n, h, (NPl_c h69 h67 h1).mpr hp⟩
theorem NmP_fe {N : Nat → Nat → Prop} {a i : Nat} {x : Int32} (f : FEn N σ τ) : NmP T τ x a i ↔ NmP T σ x a i := NmP_c (f.1 69 (by unfold AlS; omega) (by decide) (by decide) (by decide)) (f.1 67 (by unfold AlS; omega) (by decide) (by decide) (by decide)) ((FEn_b f).2.2.1 1 (by unfold Zn; omega))
/-- behind a binding -/
def BdQ (N : Nat → Nat → Prop) (t w XC : Nat) (σ1 σ2 : MS) (r1 r2 : Int32 × MS) : Prop := FEn N σ1 r1.2 ∧ FEn N σ2 r2.2 ∧ (EI t w XC r1.2 r2.2 ∨ (EZ t t r1.2 ∧ EZ t t r2.2))
theorem E_bind {N : Nat → Nat → Prop} {n q f fu dp e i0 v1 v2 k p : Nat} (hXC : XC ≤ 408500) (hS1 : STb T FN σ1) (hI : EI t w XC σ1 σ2) (hC : Cx lc fu dp e σ1) (hn : (1 ≤ n ∧ n < LNo T % 70001)) (hq : 1 ≤ q ∧ q ≤ 70000) (hW : WN T FN f 6 O q K lc (T 6 n)) (hN : ∀ a i, NmP T σ1 (T 6 n) a i → N a i) (he : e ≤ 4000) (hi : i0 < e) (a1 : σ1.2.2 34 i0 = nI v1) (a2 : σ2.2.2 34 i0 = nI v2) (b1 : v1 < 1740000) (b2 : v2 < 1740000) (k5 : 5 ≤ kdN (σ1.2.2 28) v1) (hp : σ1.2.2 28 (v1 + 1) = nI p) (hp2 : p ≤ 3996) (hk : k < p) {L1 L2 : Nat → Int32} (d1 : L1 1 = nI n) (c1 : L2 1 = nI n) (d2 : L1 2 = σ1.2.2 28 (v1 + 4 + k)) (c2 : L2 2 = σ2.2.2 28 (v2 + 4 + k)) : T2 (fun k => x_bind k 0 L1 σ1) (fun k => x_bind k 0 L2 σ2) (BdQ N t w XC σ1 σ2) := by
  have hS2 := EI_ST hI hS1
  have h72 := hC.2.2.2.2.1
  have tb : ∀ (τ1 τ2 : MS), FEn N σ1 τ1 → FEn N σ2 τ2 → ∀ a i, 4 ≤ a → a ≤ 9 → (1 ≤ i ∧ i < LNo T % 70001) → τ1.2.2 a i = T a i ∧ τ2.2.2 a i = T a i := fun τ1 τ2 f1 f2 a i h1 h2 h3 => ⟨(STb_fe hS1 f1).1 a i h1 (by omega) ⟨fun _ => h3, fun z => by omega⟩, (STb_fe hS2 f2).1 a i h1 (by omega) ⟨fun _ => h3, fun z => by omega⟩⟩
  -- a state in which nothing but variables is other
  have val : ∀ (τ1 τ2 : MS), FEn N σ1 τ1 → FEn N σ2 τ2 → τ1.2.2 28 = σ1.2.2 28 → τ2.2.2 28 = σ2.2.2 28 → τ1.2.2 34 = σ1.2.2 34 → τ2.2.2 34 = σ2.2.2 34 → ∀ (g1 : Nat → Prop) (l1 : List Nat) (B1 h1 X1 : Nat) (g2 : Nat → Prop) (l2 : List Nat) (B2 h2 X2 : Nat), EIx t w XC τ1 τ2 g1 l1 B1 h1 X1 g2 l2 B2 h2 X2 → ∃ a b, σ1.2.2 28 (v1 + 4 + k) = nI a ∧ σ2.2.2 28 (v2 + 4 + k) = nI b ∧ (a < 3 ∨ g1 a) ∧ (b < 3 ∨ g2 b) ∧ EVb (τ1.2.2 28) (τ2.2.2 28) a b ∧ VC g1 g2 (τ1.2.2 28) (τ2.2.2 28) (nI a) (nI b) ∧ (a < 3 ∨ Rch (τ1.2.2 28) (RoS t τ1) a) ∧ (b < 3 ∨ Rch (τ2.2.2 28) (RoS t τ2) b) ∧ (kdN (τ1.2.2 28) a = 5 → ∃ q, τ1.2.2 28 (a + 1) = nI q ∧ τ2.2.2 28 (b + 1) = nI q ∧ q ≤ 3996 ∧ a + 4 + q ≤ 1740000 ∧ b + 4 + q ≤ 1740000 ∧ ∀ i, i < q → VC g1 g2 (τ1.2.2 28) (τ2.2.2 28) (τ1.2.2 28 (a + 4 + i)) (τ2.2.2 28 (b + 4 + i)) ∧ (∃ m, τ1.2.2 28 (a + 4 + i) = nI m ∧ (m < 3 ∨ Rch (τ1.2.2 28) (RoS t τ1) m)) ∧ ∃ m, τ2.2.2 28 (b + 4 + i) = nI m ∧ (m < 3 ∨ Rch (τ2.2.2 28) (RoS t τ2) m)) := by
    intro τ1 τ2 f1 f2 r1 r2 s1 s2 g1 l1 B1 h1 X1 g2 l2 B2 h2 X2 hX
    have := IT_val hX ((f1.1 72 (by unfold AlS; omega) (by decide) (by decide) (by decide)).trans h72) he hi (by rw [s1]; exact a1) (by rw [s2]; exact a2) b1 b2 (by rw [r1]; exact k5) (by rw [r1]; exact hp) hp2 hk
    obtain ⟨a, b, y1, y2, y3⟩ := this
    rw [r1] at y1
    rw [r2] at y2
    exact ⟨a, b, y1, y2, y3⟩
  obtain ⟨a, b, y1, y2, y3, y4, y5, y8⟩ : ∃ a b, σ1.2.2 28 (v1 + 4 + k) = nI a ∧ σ2.2.2 28 (v2 + 4 + k) = nI b ∧ a < 1740000 ∧ b < 1740000 ∧ EVb (σ1.2.2 28) (σ2.2.2 28) a b ∧ (kdN (σ1.2.2 28) a = 5 → ∃ q, σ1.2.2 28 (a + 1) = nI q ∧ σ2.2.2 28 (b + 1) = nI q ∧ q ≤ 3996 ∧ a + 4 + q ≤ 1740000 ∧ b + 4 + q ≤ 1740000) := by
    obtain ⟨g1, l1, B1, h1, X1, g2, l2, B2, h2, X2, hX⟩ := hI
    obtain ⟨a, b, z1, z2, z3, z4, z5, z6, z7, z8, z9⟩ := val σ1 σ2 FE_rf FE_rf rfl rfl rfl rfl g1 l1 B1 h1 X1 g2 l2 B2 h2 X2 hX
    refine ⟨a, b, z1, z2, HS_vb hX.1.1 z3, HS_vb hX.2.1.1 z4, z5, fun z => ?_⟩
    obtain ⟨q, x1, x2, x3, x4, x5, _⟩ := z9 z
    exact ⟨q, x1, x2, x3, x4, x5⟩
  rcases WN_6 hW with ⟨z, _⟩ | ⟨q', n1, s, f', eq, xn, hn1, x6, hs, x5, W9⟩
  · omega
  refine T2_suc (fun k => by rw [x_bind]) (fun k => by rw [x_bind]) ?_
  rw [d1, c1]
  refine T2_chk (n_in (by omega) (by omega)) (n_in (by omega) (by omega)) ?_
  rw [n_cl (p := n) (by omega), hS1.1 5 _ (by omega) (by omega) (by omega), hS2.1 5 _ (by omega) (by omega) (by omega)]
  refine T2_ite Iff.rfl (fun _ _ => ?_) (fun _ _ => ?_)
  · -- one name
    refine T2_chk (n_in3 (by omega) (by omega)) (n_in3 (by omega) (by omega)) ?_
    rw [hS1.1 6 _ (by omega) (by omega) (by omega), hS2.1 6 _ (by omega) (by omega) (by omega), xn]
    obtain ⟨pa, pi, pv, pn, pb⟩ := E_bnd hS1 hI hC hn1 x6 hs x5.1
    have hin : N pa pi := hN pa pi ((NmP_1 hn1 xn).mpr (Or.inl ((pn pa pi).mpr ⟨rfl, rfl⟩)))
    refine T2_ob (pb _ _ rfl rfl) (fun r1 r2 hr => ?_)
    rw [hr.1, hr.2]
    show T2 (fun k => some (0, mAr σ1 pa pi (L1 2))) (fun k => some (0, mAr σ2 pa pi (L2 2))) _
    rw [d2, c2, y1, y2]
    refine T2_some ⟨FE_bd pv hin, FE_bd pv hin, Or.inl (EI_bd hI pv (fun g1 l1 B1 h1 X1 g2 l2 B2 h2 X2 hX => ?_))⟩
    obtain ⟨a', b', z1, z2, z3, z4, z5, z6, z7, z8, z9⟩ := val σ1 σ2 FE_rf FE_rf rfl rfl rfl rfl g1 l1 B1 h1 X1 g2 l2 B2 h2 X2 hX
    rw [← y1, ← y2, z1, z2]
    exact ⟨z6, ⟨a', rfl, z7⟩, ⟨b', rfl, z8⟩⟩
  -- several
  have b6 : ∀ (f m c : Nat) (x : Int32) (ln : Nat) (N1 N2 : Nat → Int32) (τ1 τ2 : MS), WN T FN f 6 O m K lc x → (∀ a i, NmP T σ1 x a i → N a i) → kdN (σ1.2.2 28) a = 5 → σ1.2.2 28 (a + 1) = nI ln → σ2.2.2 28 (b + 1) = nI ln → ln ≤ 3996 → a + 4 + ln ≤ 1740000 → b + 4 + ln ≤ 1740000 → c + m ≤ 70000 → N1 2 = nI a → N2 2 = nI b → N1 4 = nI c → N2 4 = nI c → N1 5 = x → N2 5 = x → FEn N σ1 τ1 → FEn N σ2 τ2 → τ1.2.2 28 = σ1.2.2 28 → τ2.2.2 28 = σ2.2.2 28 → τ1.2.2 34 = σ1.2.2 34 → τ2.2.2 34 = σ2.2.2 34 → EI t w XC τ1 τ2 → T2 (fun k => x_bind k 6 N1 τ1) (fun k => x_bind k 6 N2 τ2) (BdQ N t w XC σ1 σ2) := by
    intro f
    induction f with
    | zero => intro m c x ln N1 N2 τ1 τ2 hW; exact hW.elim
    | succ f ih =>
      intro m c x ln N1 N2 τ1 τ2 hW hNx ka la lb hln ba bb hcm n2 o2 n4 o4 n5 o5 f1 f2 r1 r2 s1 s2 hJ
      have hW0 := hW
      unfold WN at hW
      rcases hW with ⟨z, _⟩ | ⟨z, _⟩ | ⟨z, _⟩ | ⟨z, _⟩ | ⟨z, _⟩ | ⟨z, _⟩ | ⟨_, hor⟩
      case inl => exact absurd z (by decide)
      case inr.inl => exact absurd z (by decide)
      case inr.inr.inl => exact absurd z (by decide)
      case inr.inr.inr.inl => exact absurd z (by decide)
      case inr.inr.inr.inr.inl => exact absurd z (by decide)
      case inr.inr.inr.inr.inr.inl => exact absurd z (by decide)
      refine T2_suc (fun k => by rw [x_bind]) (fun k => by rw [x_bind]) ?_
      rw [n5, o5, n2, o2, n4, o4]
      rcases hor with ⟨_, z⟩ | ⟨m', n', s', em, xn', hn', x6', hs', x5', W9'⟩
      · rw [z]
        refine T2_ite Iff.rfl (fun _ _ => ?_) (fun y _ => absurd rfl y)
        refine T2_suc (fun k => by rw [x_bind]) (fun k => by rw [x_bind]) ?_
        exact T2_some ⟨f1, f2, Or.inl hJ⟩
      rw [xn']
      refine T2_ite Iff.rfl (fun y _ => absurd y (n_neg hn')) (fun _ _ => ?_)
      rw [n_add1, n_add1]
      refine T2_chk (n_in (by omega) (by omega)) (n_in (by omega) (by omega)) ?_
      rw [n_cl (p := a + 1) (by omega), n_cl (p := b + 1) (by omega), r1, r2, la, lb]
      -- one is bound
      have b8 : ∀ (M1 M2 : Nat → Int32) (x y : Int32), M1 2 = nI a → M2 2 = nI b → M1 4 = nI c → M2 4 = nI c → M1 5 = nI n' → M2 5 = nI n' → M1 101 = nI n' → M2 101 = nI n' → M1 100 = x → M2 100 = y → (∀ (g1 : Nat → Prop) (l1 : List Nat) (B1 h1 X1 : Nat) (g2 : Nat → Prop) (l2 : List Nat) (B2 h2 X2 : Nat), EIx t w XC τ1 τ2 g1 l1 B1 h1 X1 g2 l2 B2 h2 X2 → VC g1 g2 (τ1.2.2 28) (τ2.2.2 28) x y ∧ (∃ m, x = nI m ∧ (m < 3 ∨ Rch (τ1.2.2 28) (RoS t τ1) m)) ∧ ∃ m, y = nI m ∧ (m < 3 ∨ Rch (τ2.2.2 28) (RoS t τ2) m)) → T2 (fun k => x_bind k 8 M1 τ1) (fun k => x_bind k 8 M2 τ2) (BdQ N t w XC σ1 σ2) := by
        intro M1 M2 x y m2 l2 m4 l4 m5 l5 m101 l101 m100 l100 hv
        refine T2_suc (fun k => by rw [x_bind]) (fun k => by rw [x_bind]) ?_
        rw [m101, l101, m5, l5, m4, l4]
        obtain ⟨pa, pi, pv, pn, pb⟩ := E_bnd (STb_fe hS1 f1) hJ (Cx_fe hC f1) hn' x6' hs' x5'.1
        have hin : N pa pi := hNx pa pi ((NmP_fe f1).mp ((NmP_1 hn' xn').mpr (Or.inl ((pn pa pi).mpr ⟨rfl, rfl⟩))))
        refine T2_ob (pb _ _ rfl rfl) (fun u1 u2 hu => ?_)
        rw [hu.1, hu.2]
        have e2a : upd (upd (fun _ : Nat => (0 : Int32)) 1 (nI n')) 2 (M1 100) 2 = x := m100
        have e2b : upd (upd (fun _ : Nat => (0 : Int32)) 1 (nI n')) 2 (M2 100) 2 = y := l100
        rw [e2a, e2b]
        refine T2_chk (n_in (by omega) (by omega)) (n_in (by omega) (by omega)) ?_
        have g1 := FE_tr f1 (FE_bd (σ := τ1) (x := x) pv hin)
        have g2 := FE_tr f2 (FE_bd (σ := τ2) (x := y) pv hin)
        obtain ⟨nn1, nn2, nn3, nn4, nn5, nn6, nn7⟩ := PlV_n pv
        rw [n_cl (p := n') (by omega)]
        show T2 (fun k => x_bind k 6 (upd (upd M1 4 (nI c + 1)) 5 ((mAr τ1 pa pi x).2.2 9 n')) (mAr τ1 pa pi x)) (fun k => x_bind k 6 (upd (upd M2 4 (nI c + 1)) 5 ((mAr τ2 pa pi y).2.2 9 n')) (mAr τ2 pa pi y)) _
        rw [(tb _ _ g1 g2 9 _ (by omega) (by omega) (by omega)).1, (tb _ _ g1 g2 9 _ (by omega) (by omega) (by omega)).2]
        exact ih m' (c + 1) (T 9 n') ln _ _ _ _ W9' (fun a i z => hNx a i ((NmP_1 hn' xn').mpr (Or.inr z))) ka la lb hln ba bb (by omega) m2 l2 (n_add1 c) (n_add1 c) rfl rfl g1 g2 ((mAr_o (fun z => nn1 z.symm)).trans r1) ((mAr_o (fun z => nn1 z.symm)).trans r2) ((mAr_o (fun z => nn4 z.symm)).trans s1) ((mAr_o (fun z => nn4 z.symm)).trans s2) (EI_bd hJ pv hv)
      refine T2_ite Iff.rfl (fun _ _ => ?_) (fun y _ => ?_)
      · refine T2_suc (fun k => by rw [x_bind]) (fun k => by rw [x_bind]) ?_
        exact b8 _ _ 0 0 n2 o2 n4 o4 (n5.trans xn') (o5.trans xn') rfl rfl rfl rfl (fun g1 l1 B1 h1 X1 g2 l2 B2 h2 X2 hX => ⟨VC_00, ⟨0, rfl, Or.inl (by decide)⟩, ⟨0, rfl, Or.inl (by decide)⟩⟩)
      · have hc : c < ln := by
          by_cases y' : ln ≤ c
          · exact absurd ((n_le (by omega) (by omega)).mpr y') y
          · omega
        rw [show nI a + 4 = nI (a + 4) from n_add (q := 4) (by omega), show nI b + 4 = nI (b + 4) from n_add (q := 4) (by omega), n_add (p := a + 4) (by omega), n_add (p := b + 4) (by omega)]
        refine T2_chk (n_in (by omega) (by omega)) (n_in (by omega) (by omega)) ?_
        rw [n_cl (p := a + 4 + c) (by omega), n_cl (p := b + 4 + c) (by omega)]
        refine b8 _ _ (σ1.2.2 28 (a + 4 + c)) (σ2.2.2 28 (b + 4 + c)) n2 o2 n4 o4 (n5.trans xn') (o5.trans xn') rfl rfl rfl rfl (fun g1 l1 B1 h1 X1 g2 l2 B2 h2 X2 hX => ?_)
        obtain ⟨a', b', z1, z2, z3, z4, z5, z6, z7, z8, z9⟩ := val τ1 τ2 f1 f2 r1 r2 s1 s2 g1 l1 B1 h1 X1 g2 l2 B2 h2 X2 hX
        have ea : a' = a := (n_eq (by have := HS_vb hX.1.1 z3; omega) (by omega)).mp (z1.symm.trans y1)
        have eb : b' = b := (n_eq (by have := HS_vb hX.2.1.1 z4; omega) (by omega)).mp (z2.symm.trans y2)
        subst ea
        subst eb
        obtain ⟨q2, w1, w2, w3, w4, w5, w6⟩ := z9 (by rw [r1]; exact ka)
        have eq2 : q2 = ln := by
          rw [r1, la] at w1
          exact ((n_eq (by omega) (by omega)).mp w1).symm
        subst eq2
        have := w6 c hc
        rw [r1, r2] at this ⊢
        exact this
  have b4 : ∀ (N1 N2 : Nat → Int32), T2 (fun k => x_bind k 4 N1 σ1) (fun k => x_bind k 4 N2 σ2) (BdQ N t w XC σ1 σ2) := by
    intro N1 N2
    refine T2_suc (fun k => by rw [x_bind]) (fun k => by rw [x_bind]) ?_
    refine T2_ob (T2_t (s_fail _ _) (s_fail _ _)) (fun r1 r2 hr => ?_)
    rw [hr.1, hr.2]
    exact T2_some ⟨FE_n FE_er, FE_n FE_er, Or.inr (E_er (a := t) (b := t) (e := 1) hXC hI (by decide) (by decide) (Nat.le_refl _) (Nat.le_refl _))⟩
  have b3 : ∀ (N1 N2 : Nat → Int32), N1 1 = nI n → N2 1 = nI n → N1 2 = nI a → N2 2 = nI b → N1 3 = N2 3 → T2 (fun k => x_bind k 3 N1 σ1) (fun k => x_bind k 3 N2 σ2) (BdQ N t w XC σ1 σ2) := by
    intro N1 N2 n1' o1 n2 o2 n3
    obtain ⟨g1, l1, B1, h1, X1, g2, l2, B2, h2, X2, hX⟩ := id hI
    obtain ⟨a', b', z1, z2, z3, z4, z5, z6, z7, z8, z9⟩ := val σ1 σ2 FE_rf FE_rf rfl rfl rfl rfl g1 l1 B1 h1 X1 g2 l2 B2 h2 X2 hX
    have ea : a' = a := (n_eq (by have := HS_vb hX.1.1 z3; omega) (by omega)).mp (z1.symm.trans y1)
    have eb : b' = b := (n_eq (by have := HS_vb hX.2.1.1 z4; omega) (by omega)).mp (z2.symm.trans y2)
    subst ea
    subst eb
    have k6 := kdN_6 hX.1.1 z3
    refine T2_suc (fun k => by rw [x_bind]) (fun k => by rw [x_bind]) ?_
    refine T2_ob (T2_t (s_kind hX.1.1 z3 (by exact n2)) (s_kind hX.2.1.1 z4 (by exact o2))) (fun r1 r2 hr => ?_)
    rw [hr.1, hr.2, (EVb_sz y5).2.2, n2, o2, n3]
    refine T2_ite Iff.rfl (fun z _ => ?_) (fun _ _ => b4 _ _)
    have ka : kdN (σ1.2.2 28) a' = 5 := (n_eq (q := 5) (by omega) (by decide)).mp z
    obtain ⟨ln, w1, w2, w3, w4, w5⟩ := y8 ka
    rw [n_add1, n_add1]
    refine T2_chk (n_in (by omega) (by omega)) (n_in (by omega) (by omega)) ?_
    rw [n_cl (p := a' + 1) (by omega), n_cl (p := b' + 1) (by omega)]
    show T2 (fun k => if σ1.2.2 28 (a' + 1) ≤ N2 3 then x_bind k 5 N1 σ1 else x_bind k 4 N1 σ1) (fun k => if σ2.2.2 28 (b' + 1) ≤ N2 3 then x_bind k 5 N2 σ2 else x_bind k 4 N2 σ2) _
    rw [w1, w2]
    refine T2_ite Iff.rfl (fun _ _ => ?_) (fun _ _ => b4 _ _)
    refine T2_suc (fun k => by rw [x_bind]) (fun k => by rw [x_bind]) ?_
    rw [n1', o1]
    refine T2_chk (n_in (by omega) (by omega)) (n_in (by omega) (by omega)) ?_
    rw [n_cl (p := n) (by omega), hS1.1 6 _ (by omega) (by omega) (by omega), hS2.1 6 _ (by omega) (by omega) (by omega)]
    exact b6 f q 0 (T 6 n) ln _ _ σ1 σ2 hW hN ka w1 w2 w3 w4 w5 (by omega) n2 o2 rfl rfl rfl rfl FE_rf FE_rf rfl rfl rfl rfl hI
  have b2 : ∀ (f m : Nat) (x : Int32) (N1 N2 : Nat → Int32), WN T FN f 6 O m K lc x → N1 1 = nI n → N2 1 = nI n → N1 2 = nI a → N2 2 = nI b → N1 3 = N2 3 → N1 4 = x → N2 4 = x → T2 (fun k => x_bind k 2 N1 σ1) (fun k => x_bind k 2 N2 σ2) (BdQ N t w XC σ1 σ2) := by
    intro f
    induction f with
    | zero => intro m x N1 N2 hW; exact hW.elim
    | succ f ih =>
      intro m x N1 N2 hW n1' o1 n2 o2 n3 n4 o4
      unfold WN at hW
      rcases hW with ⟨z, _⟩ | ⟨z, _⟩ | ⟨z, _⟩ | ⟨z, _⟩ | ⟨z, _⟩ | ⟨z, _⟩ | ⟨_, hor⟩
      case inl => exact absurd z (by decide)
      case inr.inl => exact absurd z (by decide)
      case inr.inr.inl => exact absurd z (by decide)
      case inr.inr.inr.inl => exact absurd z (by decide)
      case inr.inr.inr.inr.inl => exact absurd z (by decide)
      case inr.inr.inr.inr.inr.inl => exact absurd z (by decide)
      refine T2_suc (fun k => by rw [x_bind]) (fun k => by rw [x_bind]) ?_
      rw [n4, o4]
      rcases hor with ⟨_, z⟩ | ⟨m', n', s', em, xn', hn', x6', hs', x5', W9'⟩
      · rw [z]
        refine T2_ite Iff.rfl (fun _ _ => b3 _ _ n1' o1 n2 o2 n3) (fun y _ => absurd rfl y)
      rw [xn']
      refine T2_ite Iff.rfl (fun y _ => absurd y (n_neg hn')) (fun _ _ => ?_)
      refine T2_chk (n_in (by omega) (by omega)) (n_in (by omega) (by omega)) ?_
      rw [n_cl (p := n') (by omega), hS1.1 9 _ (by omega) (by omega) (by omega), hS2.1 9 _ (by omega) (by omega) (by omega)]
      exact ih m' (T 9 n') _ _ W9' n1' o1 n2 o2 (by show N1 3 + 1 = N2 3 + 1; rw [n3]) rfl rfl
  refine T2_suc (fun k => by rw [x_bind]) (fun k => by rw [x_bind]) ?_
  rw [d1, c1]
  refine T2_chk (n_in (by omega) (by omega)) (n_in (by omega) (by omega)) ?_
  rw [n_cl (p := n) (by omega), hS1.1 6 _ (by omega) (by omega) (by omega), hS2.1 6 _ (by omega) (by omega) (by omega)]
  exact b2 f q (T 6 n) _ _ hW d1 c1 (d2.trans y1) (c2.trans y2) rfl rfl rfl
end EBN
end JnS216
section JnS217
/-! Evaluation on both sides (reference): a byte of a string is bound; the state behind it. -/
section LEA
variable {T : Nat → Nat → Int32} {FN : Nat → Nat → Prop} {O r K d t u w XC : Nat} {lc : Nat → Prop} {σ σ1 σ2 τ τ1 τ2 ρ : MS} {g : Nat → Prop} {l : List Nat} {B h X a i : Nat}
theorem RtP_bd {x : Int32} (hp : PlV a i) : (∀ b j, RtP t (mAr σ a i x) b j ↔ RtP t σ b j) ∧ (RtQ σ → RtQ (mAr σ a i x)) := by
  obtain ⟨n1, n2, n3, n4, n5, n6, n7⟩ := PlV_n hp
  have r1 : (mAr σ a i x).2.2 30 1 = σ.2.2 30 1 := by
    by_cases e : a = 30
    · subst e; rw [mAr_s, upd_other (fun c => (n7 rfl).1 c.symm)]
    · rw [mAr_o (fun c => e c.symm)]
  have r3 : (mAr σ a i x).2.2 30 3 = σ.2.2 30 3 := by
    by_cases e : a = 30
    · subst e; rw [mAr_s, upd_other (fun c => (n7 rfl).2 c.symm)]
    · rw [mAr_o (fun c => e c.symm)]
  have r31 : (mAr σ a i x).2.2 31 = σ.2.2 31 := mAr_o (fun c => n3 c.symm)
  exact ⟨RtP_b rfl rfl r1 r3 r31, fun hQ => RtQ_b (σ := σ) rfl rfl r1 r3 r31 hQ⟩
theorem mAr_v {x : Int32} {b j : Nat} (e : ¬ (b = a ∧ j = i)) : (mAr σ a i x).2.2 b j = σ.2.2 b j := by
  by_cases eb : b = a
  · subst eb; rw [mAr_s, upd_other (fun c => e ⟨rfl, c⟩)]
  · rw [mAr_o eb]
/-- one side: an object without members, of five cells, is bound -/
theorem MI_bdL {m : Nat} (hM : MI t X g l B h σ) (hp : PlV a i) (gm : g m) (hk : ¬ (σ.2.2 28 m = nI 5 ∨ σ.2.2 28 m = nI 6)) (hn : σ.2.2 28 (m + 1) = nI 1) : MI t (X + 5) g l B h (mAr σ a i (nI m)) := by
  obtain ⟨n1, n2, n3, n4, n5, n6, n7⟩ := PlV_n hp
  obtain ⟨rt, rq⟩ := RtP_bd (t := t) (σ := σ) (x := nI m) hp
  obtain ⟨m1, m2, m3, m4⟩ := hM
  have e28 : (mAr σ a i (nI m)).2.2 28 = σ.2.2 28 := mAr_o (fun c => n1 c.symm)
  have bm := HS_vb m1 (Or.inr gm)
  refine ⟨HS_c m1 rfl rfl e28, rq m2, fun b j z => ?_, fun N => ?_⟩
  · by_cases e : b = a ∧ j = i
    · obtain ⟨e1, e2⟩ := e
      subst e1
      subst e2
      rw [mAr_s, upd_same]; exact ⟨m, rfl, Or.inr gm⟩
    · rw [mAr_v e]; exact m3 b j ((rt b j).mp z)
  · rw [e28]
    have sub : ∀ v, Rch (σ.2.2 28) (RoS t (mAr σ a i (nI m))) v → Rch (σ.2.2 28) (RoS t σ) v ∨ v = m := fun v hv => by
      refine hv (fun v => Rch (σ.2.2 28) (RoS t σ) v ∨ v = m) (fun u hu => ?_) (fun u n j q ih k1 k2 k3 k4 k5 k6 k7 => ?_)
      · obtain ⟨u1, u2, b, j, hR, e⟩ := hu
        by_cases c : b = a ∧ j = i
        · obtain ⟨e1, e2⟩ := c
          subst e1
          subst e2
          rw [mAr_s, upd_same] at e
          exact Or.inr ((n_eq (by omega) (by omega)).mp e).symm
        · rw [mAr_v c] at e
          exact Or.inl (Rch_b ⟨u1, u2, b, j, (rt b j).mp hR, e⟩)
      · rcases ih with ih | ih
        · exact Or.inl (Rch_s ih k1 k2 k3 k4 k5 k6 k7)
        · rw [ih] at k1; exact absurd k1 hk
    have s1 := lvN_le (H := σ.2.2 28) (H' := σ.2.2 28) (S := Rch (σ.2.2 28) (RoS t (mAr σ a i (nI m)))) (T := fun v => Rch (σ.2.2 28) (RoS t σ) v ∨ v = m) (fun v hv => ⟨sub v hv, rfl⟩) N
    have s2 := lvN_or (H := σ.2.2 28) (S := Rch (σ.2.2 28) (RoS t σ)) (T := fun v => v = m) N
    have s3 := (lvN_one (H := σ.2.2 28) (v := m) N).1
    rw [hn, n_cl (p := 1) (by decide)] at s3
    have s4 := m4 N
    omega
theorem EI_bdG {x y : Int32} {g1 g2 : Nat → Prop} {l1 l2 : List Nat} {B1 h1 X1 B2 h2 X2 Y1 Y2 : Nat} (hX : EIx t w XC σ1 σ2 g1 l1 B1 h1 X1 g2 l2 B2 h2 X2) (hp : PlV a i) (k1 : MI t Y1 g1 l1 B1 h1 (mAr σ1 a i x)) (k2 : MI t Y2 g2 l2 B2 h2 (mAr σ2 a i y)) (vc : VC g1 g2 (σ1.2.2 28) (σ2.2.2 28) x y) (b1 : Y1 ≤ XC + 6 * w) (b2 : Y2 ≤ XC + 6 * w) : EI t w XC (mAr σ1 a i x) (mAr σ2 a i y) := by
  obtain ⟨m1, m2, hR, i1, i2, t1, e1, e2, w1, hw, x1, x2, ⟨ty1, ty2⟩, c⟩ := hX
  obtain ⟨n1, n2, n3, n4, n5, n6, n7⟩ := PlV_n hp
  have rt1 := (RtP_bd (t := t) (σ := σ1) (x := x) hp).1
  have o1 : ∀ b, b ≠ a → (mAr σ1 a i x).2.2 b = σ1.2.2 b := fun b hb => mAr_o hb
  have o2 : ∀ b, b ≠ a → (mAr σ2 a i y).2.2 b = σ2.2.2 b := fun b hb => mAr_o hb
  refine ⟨g1, l1, B1, h1, Y1, g2, l2, B2, h2, Y2, k1, k2, ⟨fun b j z hv => ?_, fun b j hb hz hn => ?_, hR.2.2.1, hR.2.2.2⟩, IT_c (σ := σ1) rfl (o1 34 (fun c => n4 c.symm)) (o1 35 (fun c => n5 c.symm)) (o1 28 (fun c => n1 c.symm)) i1, IT_c (σ := σ2) rfl (o2 34 (fun c => n4 c.symm)) (o2 35 (fun c => n5 c.symm)) (o2 28 (fun c => n1 c.symm)) i2, t1, e1, e2, w1, hw, b1, b2, ⟨by rw [o1 2 (fun c => n6 c.symm)]; exact ty1, by rw [o1 2 (fun c => n6 c.symm), o2 2 (fun c => n6 c.symm)]; exact ty2⟩, c⟩
  · rw [o1 28 (fun c => n1 c.symm), o2 28 (fun c => n1 c.symm)]
    have z := (rt1 b j).mp z
    by_cases e : b = a ∧ j = i
    · obtain ⟨eb, ej⟩ := e
      subst eb
      subst ej
      rw [mAr_s, mAr_s, upd_same, upd_same]; exact vc
    · rw [mAr_v e, mAr_v e]; exact hR.1 b j z hv
  · have e : ¬ (b = a ∧ j = i) := by
      intro q
      obtain ⟨eb, ej⟩ := q
      subst eb
      subst ej
      unfold PlV at hp
      unfold Zn at hz
      omega
    rw [mAr_v e, mAr_v e]; exact hR.2.1 b j hb hz (fun z => hn ((InA_bd hp b j).mpr z))
/-- a byte of a string, there being room: an object of five cells, where the heap ended -/
theorem s_memX {v n j : Nat} (hS : HS g l B h σ) (hr : h + 5 ≤ B + 870000) (h56 : σ.1 56 = 0) (hv : v + 4 + n ≤ 1740000) (hk : σ.2.2 28 v = nI 4) (hj : j < n) {L : Nat → Int32} (h1 : L 1 = nI v) (h2 : L 2 = nI j) : Tm (fun k => x_memberAt k 0 L σ) (fun r => r.1 = nI h ∧ r.2.1 56 = 0 ∧ r.2.2.2 28 h = nI 4 ∧ r.2.2.2 28 (h + 1) = nI 1) := by
  have hb := HS_b hS
  have hB := hS.2.1
  refine Tm_suc (fun k => by rw [x_memberAt]) ?_
  rw [h1, h2, show nI v + 4 = nI (v + 4) from n_add (q := 4) (by omega), n_add (by omega)]
  refine Tm_chk (n_in (by omega) (by omega)) ?_
  rw [n_cl (p := v) (by omega), hk]
  refine Tm_ite (fun _ => ?_) (fun z => absurd rfl z)
  refine Tm_chk (n_in (by omega) (by omega)) ?_
  have key : ∀ L : Nat → Int32, Tm (fun k => x_byteString k 0 L σ) (fun r => r.1 = nI h ∧ r.2.1 56 = 0 ∧ r.2.2.2 28 h = nI 4 ∧ r.2.2.2 28 (h + 1) = nI 1) := by
    intro L
    refine Tm_suc (fun k => by rw [x_byteString]) ?_
    refine Tm_ob (s_make hS (n := 1) (by decide) rfl) (fun r hr' => ?_)
    rcases hr' with ⟨z, hr'⟩ | ⟨z, hr'⟩
    · omega
    rw [hr']
    have e56 : (mMk σ h 4 1).1 56 = 0 := (mMk_s (by decide)).trans h56
    refine Tm_ite (fun _ => ?_) (fun z => absurd (show (mMk σ h 4 1).1 56 ≤ 0 by rw [e56]; decide) z)
    show Tm (fun k => x_byteString k 1 (upd L 2 (nI h)) (mMk σ h 4 1)) _
    refine Tm_suc (fun k => by rw [x_byteString]) ?_
    show Tm (fun k => if ¬ (nI h + 4 < 0 ∨ 1740000 ≤ (nI h + 4).toNatClampNeg) then (x_byteString k 2 (upd L 2 (nI h)) (mAr (mMk σ h 4 1) 28 (nI h + 4).toNatClampNeg (L 1))) else none) _
    rw [show nI h + 4 = nI (h + 4) from n_add (q := 4) (by omega)]
    refine Tm_chk (n_in (by omega) (by omega)) ?_
    rw [n_cl (p := h + 4) (by omega)]
    refine Tm_suc (fun k => by rw [x_byteString]) ?_
    show Tm (fun k => if ¬ (nI h + 2 < 0 ∨ 1740000 ≤ (nI h + 2).toNatClampNeg) then (x_byteString k 3 (upd L 2 (nI h)) (mAr (mAr (mMk σ h 4 1) 28 (h + 4) (L 1)) 28 (nI h + 2).toNatClampNeg 2)) else none) _
    rw [show nI h + 2 = nI (h + 2) from n_add (q := 2) (by omega)]
    refine Tm_chk (n_in (by omega) (by omega)) ?_
    rw [n_cl (p := h + 2) (by omega)]
    refine Tm_suc (fun k => by rw [x_byteString]) ?_
    have e : (mAr (mAr (mMk σ h 4 1) 28 (h + 4) (L 1)) 28 (h + 2) 2).2.2 28 = upd (upd (upd (upd (upd (upd (σ.2.2 28) h 4) (h + 1) (nI 1)) (h + 2) 1) (h + 3) 0) (h + 4) (L 1)) (h + 2) 2 := by rw [mAr_s, mAr_s, mMk_28]
    show Tm (fun k => some (nI h, mAr (mAr (mMk σ h 4 1) 28 (h + 4) (L 1)) 28 (h + 2) 2)) _
    refine Tm_some ⟨rfl, e56, ?_, ?_⟩
    · rw [e, upd_other (by omega), upd_other (by omega), upd_other (by omega), upd_other (by omega), upd_other (by omega), upd_same]; rfl
    · rw [e, upd_other (by omega), upd_other (by omega), upd_other (by omega), upd_other (by omega), upd_same]
  refine Tm_ob (key _) (fun r hr => ?_)
  refine Tm_suc (fun k => by rw [x_memberAt]) ?_
  exact Tm_some hr
/-- a member of another row: it lies there -/
theorem s_memY {v n j : Nat} (hv : v + 4 + n ≤ 1740000) {kk : Nat} (hk : σ.2.2 28 v = nI kk) (hk5 : 5 ≤ kk) (hk6 : kk ≤ 6) (hj : j < n) {L : Nat → Int32} (h1 : L 1 = nI v) (h2 : L 2 = nI j) : Tm (fun k => x_memberAt k 0 L σ) (fun r => r = (σ.2.2 28 (v + 4 + j), σ)) := by
  refine Tm_suc (fun k => by rw [x_memberAt]) ?_
  rw [h1, h2, show nI v + 4 = nI (v + 4) from n_add (q := 4) (by omega), n_add (by omega)]
  refine Tm_chk (n_in (by omega) (by omega)) ?_
  rw [n_cl (p := v) (by omega), hk]
  refine Tm_ite (fun z => absurd ((n_eq (q := 4) (by omega) (by decide)).mp z) (by omega)) (fun _ => ?_)
  refine Tm_suc (fun k => by rw [x_memberAt]) ?_
  rw [h1, h2, show nI v + 4 = nI (v + 4) from n_add (q := 4) (by omega), n_add (by omega)]
  refine Tm_chk (n_in (by omega) (by omega)) ?_
  rw [n_cl (p := v + 4 + j) (by omega)]
  refine Tm_suc (fun k => by rw [x_memberAt]) ?_
  exact Tm_some rfl
/-- a string is bound: to one name; to several it is an error -/
theorem E_bindL {N : Nat → Nat → Prop} {g1 g2 : Nat → Prop} {l1 l2 : List Nat} {B1 h1 X1 B2 h2 X2 n q f fu dp e m1 m2 : Nat} (hXC : XC ≤ 408500) (hS1 : STb T FN σ1) (hX : EIx t w XC σ1 σ2 g1 l1 B1 h1 X1 g2 l2 B2 h2 X2) (hC : Cx lc fu dp e σ1) (hn : (1 ≤ n ∧ n < LNo T % 70001)) (hq : 1 ≤ q ∧ q ≤ 70000) (hW : WN T FN f 6 O q K lc (T 6 n)) (hN : ∀ a i, NmP T σ1 (T 6 n) a i → N a i) (y1 : X1 + 5 ≤ XC + 6 * w) (y2 : X2 + 5 ≤ XC + 6 * w) (gm1 : g1 m1) (gm2 : g2 m2) (vc : VC g1 g2 (σ1.2.2 28) (σ2.2.2 28) (nI m1) (nI m2)) (ka : σ1.2.2 28 m1 = nI 4) (kb : σ2.2.2 28 m2 = nI 4) (la : σ1.2.2 28 (m1 + 1) = nI 1) (lb : σ2.2.2 28 (m2 + 1) = nI 1) {L1 L2 : Nat → Int32} (d1 : L1 1 = nI n) (c1 : L2 1 = nI n) (d2 : L1 2 = nI m1) (c2 : L2 2 = nI m2) : T2 (fun k => x_bind k 0 L1 σ1) (fun k => x_bind k 0 L2 σ2) (BdQ N t w XC σ1 σ2) := by
  have hI : EI t w XC σ1 σ2 := ⟨g1, l1, B1, h1, X1, g2, l2, B2, h2, X2, hX⟩
  have hS2 := EI_ST hI hS1
  have ba := HS_vb hX.1.1 (Or.inr gm1)
  have bb := HS_vb hX.2.1.1 (Or.inr gm2)
  have leaf : ∀ {x : Int32}, x = nI 4 → ¬ (x = nI 5 ∨ x = nI 6) := fun h => by rw [h]; decide
  rcases WN_6 hW with ⟨z, _⟩ | ⟨q', n1, s, f', eq, xn, hn1, x6, hs, x5, W9⟩
  · omega
  refine T2_suc (fun k => by rw [x_bind]) (fun k => by rw [x_bind]) ?_
  rw [d1, c1]
  refine T2_chk (n_in (by omega) (by omega)) (n_in (by omega) (by omega)) ?_
  rw [n_cl (p := n) (by omega), hS1.1 5 _ (by omega) (by omega) (by omega), hS2.1 5 _ (by omega) (by omega) (by omega)]
  refine T2_ite Iff.rfl (fun _ _ => ?_) (fun _ _ => ?_)
  · refine T2_chk (n_in3 (by omega) (by omega)) (n_in3 (by omega) (by omega)) ?_
    rw [hS1.1 6 _ (by omega) (by omega) (by omega), hS2.1 6 _ (by omega) (by omega) (by omega), xn]
    obtain ⟨pa, pi, pv, pn, pb⟩ := E_bnd hS1 hI hC hn1 x6 hs x5.1
    have hin : N pa pi := hN pa pi ((NmP_1 hn1 xn).mpr (Or.inl ((pn pa pi).mpr ⟨rfl, rfl⟩)))
    refine T2_ob (pb _ _ rfl rfl) (fun r1 r2 hr => ?_)
    rw [hr.1, hr.2]
    show T2 (fun k => some (0, mAr σ1 pa pi (L1 2))) (fun k => some (0, mAr σ2 pa pi (L2 2))) _
    rw [d2, c2]
    exact T2_some ⟨FE_bd pv hin, FE_bd pv hin, Or.inl (EI_bdG hX pv (MI_bdL hX.1 pv gm1 (leaf ka) la) (MI_bdL hX.2.1 pv gm2 (leaf kb) lb) vc y1 y2)⟩
  have b4 : ∀ (N1 N2 : Nat → Int32), T2 (fun k => x_bind k 4 N1 σ1) (fun k => x_bind k 4 N2 σ2) (BdQ N t w XC σ1 σ2) := by
    intro N1 N2
    refine T2_suc (fun k => by rw [x_bind]) (fun k => by rw [x_bind]) ?_
    refine T2_ob (T2_t (s_fail _ _) (s_fail _ _)) (fun r1 r2 hr => ?_)
    rw [hr.1, hr.2]
    exact T2_some ⟨FE_n FE_er, FE_n FE_er, Or.inr (E_er (a := t) (b := t) (e := 1) hXC hI (by decide) (by decide) (Nat.le_refl _) (Nat.le_refl _))⟩
  have kd : ∀ {g : Nat → Prop} {l : List Nat} {B h m : Nat} {σ : MS}, HS g l B h σ → g m → σ.2.2 28 m = nI 4 → kdN (σ.2.2 28) m = 4 := by
    intro g l B h m σ hS gm e
    obtain ⟨n', v1, v2, v3, v4, v5, v6, v7⟩ := ob_at hS gm
    have k6 := kdN_6 hS (Or.inr gm)
    exact (n_eq (by omega) (by decide)).mp (v5.symm.trans e)
  have b3 : ∀ (N1 N2 : Nat → Int32), N1 2 = nI m1 → N2 2 = nI m2 → T2 (fun k => x_bind k 3 N1 σ1) (fun k => x_bind k 3 N2 σ2) (BdQ N t w XC σ1 σ2) := by
    intro N1 N2 n2 o2
    refine T2_suc (fun k => by rw [x_bind]) (fun k => by rw [x_bind]) ?_
    refine T2_ob (T2_t (s_kind hX.1.1 (Or.inr gm1) (by exact n2)) (s_kind hX.2.1.1 (Or.inr gm2) (by exact o2))) (fun r1 r2 hr => ?_)
    rw [hr.1, hr.2, kd hX.1.1 gm1 ka, kd hX.2.1.1 gm2 kb]
    exact T2_ite (c1 := nI 4 = 5) (c2 := nI 4 = 5) Iff.rfl (fun z _ => absurd z (by decide)) (fun _ _ => b4 _ _)
  have b2 : ∀ (f m : Nat) (x : Int32) (N1 N2 : Nat → Int32), WN T FN f 6 O m K lc x → N1 2 = nI m1 → N2 2 = nI m2 → N1 4 = x → N2 4 = x → T2 (fun k => x_bind k 2 N1 σ1) (fun k => x_bind k 2 N2 σ2) (BdQ N t w XC σ1 σ2) := by
    intro f
    induction f with
    | zero => intro m x N1 N2 hW; exact hW.elim
    | succ f ih =>
      intro m x N1 N2 hW n2 o2 n4 o4
      unfold WN at hW
      rcases hW with ⟨z, _⟩ | ⟨z, _⟩ | ⟨z, _⟩ | ⟨z, _⟩ | ⟨z, _⟩ | ⟨z, _⟩ | ⟨_, hor⟩
      case inl => exact absurd z (by decide)
      case inr.inl => exact absurd z (by decide)
      case inr.inr.inl => exact absurd z (by decide)
      case inr.inr.inr.inl => exact absurd z (by decide)
      case inr.inr.inr.inr.inl => exact absurd z (by decide)
      case inr.inr.inr.inr.inr.inl => exact absurd z (by decide)
      refine T2_suc (fun k => by rw [x_bind]) (fun k => by rw [x_bind]) ?_
      rw [n4, o4]
      rcases hor with ⟨_, z⟩ | ⟨m', n', s', em, xn', hn', x6', hs', x5', W9'⟩
      · rw [z]
        refine T2_ite Iff.rfl (fun _ _ => b3 _ _ n2 o2) (fun y _ => absurd rfl y)
      rw [xn']
      refine T2_ite Iff.rfl (fun y _ => absurd y (n_neg hn')) (fun _ _ => ?_)
      refine T2_chk (n_in (by omega) (by omega)) (n_in (by omega) (by omega)) ?_
      rw [n_cl (p := n') (by omega), hS1.1 9 _ (by omega) (by omega) (by omega), hS2.1 9 _ (by omega) (by omega) (by omega)]
      exact ih m' (T 9 n') _ _ W9' n2 o2 rfl rfl
  refine T2_suc (fun k => by rw [x_bind]) (fun k => by rw [x_bind]) ?_
  rw [d1, c1]
  refine T2_chk (n_in (by omega) (by omega)) (n_in (by omega) (by omega)) ?_
  rw [n_cl (p := n) (by omega), hS1.1 6 _ (by omega) (by omega) (by omega), hS2.1 6 _ (by omega) (by omega) (by omega)]
  exact b2 f q (T 6 n) _ _ hW d2 c2 rfl rfl
end LEA
end JnS217
section JnS218
/-! Evaluation on both sides (reference): an iterator's step. -/
/-- behind a step -/
def StQ (N : Nat → Nat → Prop) (e' t w XC : Nat) (σ1 σ2 : MS) (r1 r2 : Int32 × MS) : Prop := r1.1 = r2.1 ∧ ((r1.1 = 0 ∧ r1.2 = σ1 ∧ r2.2 = σ2) ∨ (FI N e' σ1 r1.2 ∧ FI N e' σ2 r2.2 ∧ r1.2.1 72 = σ1.1 72 ∧ r2.2.1 72 = σ2.1 72 ∧ (∀ i, i < e' + 1 → r1.2.2.2 50 i = σ1.2.2 50 i ∧ r2.2.2.2 50 i = σ2.2.2 50 i) ∧ ((r1.1 = 1 ∧ EI t (w + 1) XC r1.2 r2.2) ∨ (r1.1 = 0 ∧ EZ t t r1.2 ∧ EZ t t r2.2))))
section STE
variable {T : Nat → Nat → Int32} {FN : Nat → Nat → Prop} {O r K d t u w XC : Nat} {lc : Nat → Prop} {σ σ1 σ2 τ τ1 τ2 ρ : MS} {g : Nat → Prop} {l : List Nat} {B h X a i : Nat}
/-- rows that hold no values -/
theorem MI_nr {b : Nat} {x : Int32} (hb : b = 35 ∨ b = 50) (hM : MI t X g l B h σ) : MI t X g l B h (mAr σ b i x) := by
  have o : ∀ a, a ≠ b → (mAr σ b i x).2.2 a = σ.2.2 a := fun a ha => mAr_o ha
  have rc : ∀ c j, RtP t (mAr σ b i x) c j ↔ RtP t σ c j := RtP_c rfl rfl (o 30 (by omega)) (o 31 (by omega))
  refine MI_re hM rfl rfl (o 28 (by omega)) (RtQ_c (σ := σ) rfl rfl (o 30 (by omega)) (o 31 (by omega)) hM.2.1) (fun c j z => ?_)
  have z := (rc c j).mp z
  rw [o c (by unfold RtP at z; omega)]
  exact MI_rt hM z
theorem RA_nr {g1 g2 : Nat → Prop} {b : Nat} {x : Int32} (hb : b = 35 ∨ b = 50) (hR : RA t g1 g2 σ1 σ2) : RA t g1 g2 (mAr σ1 b i x) (mAr σ2 b i x) := by
  have o : ∀ (σ : MS) a, a ≠ b → (mAr σ b i x).2.2 a = σ.2.2 a := fun σ a ha => mAr_o ha
  have rc : ∀ c j, RtP t (mAr σ1 b i x) c j ↔ RtP t σ1 c j := RtP_c rfl rfl (o σ1 30 (by omega)) (o σ1 31 (by omega))
  refine ⟨fun c j z hv => ?_, fun c j hc hz hn => ?_, hR.2.2.1, hR.2.2.2⟩
  · have z := (rc c j).mp z
    rw [o σ1 28 (by omega), o σ2 28 (by omega), o σ1 c (by unfold RtP at z; omega), o σ2 c (by unfold RtP at z; omega)]
    exact hR.1 c j z hv
  · by_cases e : c = b ∧ j = i
    · obtain ⟨e1, e2⟩ := e
      subst e1
      subst e2
      rw [mAr_s, mAr_s, upd_same, upd_same]
    · rw [mAr_v e, mAr_v e]; exact hR.2.1 c j hc hz (fun z => hn ((InA_c (σ := σ1) (ρ := mAr σ1 b i x) rfl rfl rfl rfl rfl rfl (fun u _ => by rw [o σ1 21 (by omega)]) (fun q _ => by rw [o σ1 30 (by omega)]) (fun p _ q _ => by rw [o σ1 31 (by omega)]) c j).mpr z))
theorem IT_35 {e v k p : Nat} (hI : IT g σ) (h72 : σ.1 72 = nI (e + 1)) (he : e < 4000) (y : σ.2.2 34 e = nI v) (gv : g v) (hk : 4 ≤ kdN (σ.2.2 28) v) (hp : σ.2.2 28 (v + 1) = nI p) (hp2 : p ≤ 3996) (hkp : k ≤ p) : IT g (mAr σ 35 e (nI k)) := by
  obtain ⟨e', q1, q2, q3⟩ := hI
  have ee : e' = e + 1 := (n_eq (by omega) (by omega)).mp (q1.symm.trans h72)
  subst ee
  refine ⟨e + 1, q1, q2, fun i hi => ?_⟩
  rw [show (mAr σ 35 e (nI k)).2.2 34 = σ.2.2 34 from mAr_o (by decide), show (mAr σ 35 e (nI k)).2.2 28 = σ.2.2 28 from mAr_o (by decide), mAr_s]
  by_cases c : i = e
  · subst c
    rw [upd_same]
    exact ⟨v, k, p, y, gv, hk, hp, hp2, rfl, hkp⟩
  · rw [upd_other c]
    exact q3 i (by omega)
theorem E_step {N : Nat → Nat → Prop} {g1 g2 : Nat → Prop} {l1 l2 : List Nat} {B1 h1 X1 B2 h2 X2 n q f fu dp e' : Nat} (hXC : XC ≤ 408500) (ht : t ≤ 176000) (hS1 : STb T FN σ1) (hX : EIx t w XC σ1 σ2 g1 l1 B1 h1 X1 g2 l2 B2 h2 X2) (hr : h1 + (XC - 400000) + 15 ≤ B1 + 870000 ∧ h2 + (XC - 400000) + 15 ≤ B2 + 870000) (hC : Cx lc fu dp (e' + 1) σ1) (he : e' < 4000) (hn : (1 ≤ n ∧ n < LNo T % 70001)) (hq : 1 ≤ q ∧ q ≤ 70000) (hW : WN T FN f 6 O q K lc (T 6 n)) (hN : ∀ a i, NmP T σ1 (T 6 n) a i → N a i) {L1 L2 : Nat → Int32} (d1 : L1 1 = nI n) (d2 : L2 1 = nI n) : T2 (fun k => x_stepIter k 0 L1 σ1) (fun k => x_stepIter k 0 L2 σ2) (StQ N e' t w XC σ1 σ2) := by
  have h72 := hC.2.2.2.2.1
  obtain ⟨m1, m2, hR, i1, i2, t1, e1, e2, w1, hw, x1, x2, ⟨ty1, ty2⟩, a95, a1, a2⟩ := hX
  have al : ∀ j, AlS j → σ2.1 j = σ1.1 j := fun j h => (hR.2.2.1 j h).symm
  have g72 : σ2.1 72 = nI (e' + 1) := (al 72 (by unfold AlS; omega)).trans h72
  have t2 : σ2.1 59 = nI t := (al 59 (by unfold AlS; omega)).trans t1
  have w2 : σ2.1 57 = nI w := (al 57 (by unfold AlS; omega)).trans w1
  have a3 : σ2.1 95 = nI a95 := (al 95 (by unfold AlS; omega)).trans a1
  -- where the iterator stands
  obtain ⟨v1, k1, p1, y1, gv1, kd1, ln1, hp1, s1, kp1⟩ : ∃ v k p, σ1.2.2 34 e' = nI v ∧ g1 v ∧ 4 ≤ kdN (σ1.2.2 28) v ∧ σ1.2.2 28 (v + 1) = nI p ∧ p ≤ 3996 ∧ σ1.2.2 35 e' = nI k ∧ k ≤ p := by
    obtain ⟨e, q1, q2, q3⟩ := i1
    have ee : e = e' + 1 := (n_eq (by omega) (by omega)).mp (q1.symm.trans h72)
    exact q3 e' (by omega)
  obtain ⟨v2, k2, p2, y2, gv2, kd2, ln2, hp2, s2, kp2⟩ : ∃ v k p, σ2.2.2 34 e' = nI v ∧ g2 v ∧ 4 ≤ kdN (σ2.2.2 28) v ∧ σ2.2.2 28 (v + 1) = nI p ∧ p ≤ 3996 ∧ σ2.2.2 35 e' = nI k ∧ k ≤ p := by
    obtain ⟨e, q1, q2, q3⟩ := i2
    have ee : e = e' + 1 := (n_eq (by omega) (by omega)).mp (q1.symm.trans g72)
    exact q3 e' (by omega)
  have bv1 := HS_vb m1.1 (Or.inr gv1)
  have bv2 := HS_vb m2.1 (Or.inr gv2)
  have ek : k2 = k1 := by
    have := hR.2.1 35 e' (by unfold AlR; omega) (by unfold Zn; omega) (by unfold InA; rw [h72, n_cl (p := e' + 1) (by omega)]; omega)
    rw [s1, s2] at this
    exact ((n_eq (by omega) (by omega)).mp this).symm
  subst ek
  have rt1 : RtP t σ1 34 e' := by
    unfold RtP
    rw [h72, n_cl (p := e' + 1) (by omega)]
    exact Or.inr (Or.inr (Or.inr (Or.inr (Or.inl ⟨rfl, by omega⟩))))
  have ev : EVb (σ1.2.2 28) (σ2.2.2 28) v1 v2 := by
    obtain ⟨z1, z2, c1, c2, c3, c4, c5, c6, c7⟩ := hR.1 34 e' rt1 (by unfold VwR; omega)
    have ea : z1 = v1 := (n_eq (by omega) (by omega)).mp (c1.symm.trans y1)
    have eb : z2 = v2 := (n_eq (by omega) (by omega)).mp (c3.symm.trans y2)
    rw [← ea, ← eb]; exact c5
  obtain ⟨kk, p, hO⟩ := OE_of m1.1 m2.1 gv1 (Or.inr gv2) ev
  have hO0 := hO
  obtain ⟨_, _, o3, o4, o5, o6, o7, o8, o9, o10, o11, o12, o13, o14, o15, o16, o17⟩ := hO
  have ep1 : p1 = p := (n_eq (by omega) (by omega)).mp (ln1.symm.trans o11)
  have ep2 : p2 = p := (n_eq (by omega) (by omega)).mp (ln2.symm.trans o12)
  subst ep1
  subst ep2
  -- the end
  have fin : ∀ (N1 N2 : Nat → Int32) (υ1 υ2 : MS), FEn N (mAr σ1 35 e' (nI (k2 + 1))) υ1 → FEn N (mAr σ2 35 e' (nI (k2 + 1))) υ2 → (EI t (w + 1) XC υ1 υ2 ∨ (EZ t t υ1 ∧ EZ t t υ2)) → T2 (fun k => x_stepIter k 3 N1 υ1) (fun k => x_stepIter k 3 N2 υ2) (StQ N e' t w XC σ1 σ2) := by
    intro N1 N2 υ1 υ2 f1 f2 hor
    have c1 : FI N e' σ1 υ1 := FI_tr (FI_35 (Nat.le_refl _)) (FI_fen (e1 := e' + 1) f1 h72 (by omega) (by omega))
    have c2 : FI N e' σ2 υ2 := FI_tr (FI_35 (Nat.le_refl _)) (FI_fen (e1 := e' + 1) f2 g72 (by omega) (by omega))
    have c3 : υ1.1 72 = σ1.1 72 := f1.1 72 (by unfold AlS; omega) (by decide) (by decide) (by decide)
    have c4 : υ2.1 72 = σ2.1 72 := f2.1 72 (by unfold AlS; omega) (by decide) (by decide) (by decide)
    have c5 : ∀ i, i < e' + 1 → υ1.2.2 50 i = σ1.2.2 50 i ∧ υ2.2.2 50 i = σ2.2.2 50 i := fun i hi => by
      have z1 := f1.2.1 50 i (by unfold AlR; omega) (by unfold Zn; omega) (by
        rw [show (mAr σ1 35 e' (nI (k2 + 1))).1 72 = nI (e' + 1) from h72, n_cl (p := e' + 1) (by omega)]; omega)
      have z2 := f2.2.1 50 i (by unfold AlR; omega) (by unfold Zn; omega) (by
        rw [show (mAr σ2 35 e' (nI (k2 + 1))).1 72 = nI (e' + 1) from g72, n_cl (p := e' + 1) (by omega)]; omega)
      rw [mAr_o (by decide)] at z1 z2
      exact ⟨z1, z2⟩
    refine T2_suc (fun k => by rw [x_stepIter]) (fun k => by rw [x_stepIter]) ?_
    rcases hor with hJ | ⟨z1, z2⟩
    · obtain ⟨q1, q2⟩ := EI_e hJ
      rw [q1, q2]
      refine T2_ite Iff.rfl (fun _ _ => ?_) (fun z _ => absurd rfl z)
      refine T2_suc (fun k => by rw [x_stepIter]) (fun k => by rw [x_stepIter]) ?_
      exact T2_chk (Or.inr rfl) (Or.inr rfl) (T2_some ⟨rfl, Or.inr ⟨c1, c2, c3, c4, c5, Or.inl ⟨rfl, hJ⟩⟩⟩)
    · refine T2_ite ⟨fun z => absurd z (EZ_e z1), fun z => absurd z (EZ_e z2)⟩ (fun z _ => absurd z (EZ_e z1)) (fun _ _ => ?_)
      refine T2_suc (fun k => by rw [x_stepIter]) (fun k => by rw [x_stepIter]) ?_
      refine T2_suc (fun k => by rw [x_stepIter]) (fun k => by rw [x_stepIter]) ?_
      exact T2_chk (Or.inl rfl) (Or.inl rfl) (T2_some ⟨rfl, Or.inr ⟨c1, c2, c3, c4, c5, Or.inr ⟨rfl, z1, z2⟩⟩⟩)
  refine T2_suc (fun k => by rw [x_stepIter]) (fun k => by rw [x_stepIter]) ?_
  rw [h72, g72, n_sub1 (by omega)]
  refine T2_chk (n_in (by omega) (by omega)) (n_in (by omega) (by omega)) ?_
  refine T2_chk (n_in (by omega) (by omega)) (n_in (by omega) (by omega)) ?_
  rw [n_cl (p := e') (by omega), y1, y2, s1, s2, n_add1, n_add1]
  refine T2_chk (n_in (by omega) (by omega)) (n_in (by omega) (by omega)) ?_
  rw [n_cl (p := v1 + 1) (by omega), n_cl (p := v2 + 1) (by omega), ln1, ln2]
  refine T2_ite Iff.rfl (fun _ _ => T2_some ⟨rfl, Or.inl ⟨rfl, rfl, rfl⟩⟩) (fun z _ => ?_)
  have hkp : k2 < p2 := by
    by_cases e : k2 = p2
    · exact absurd (by rw [e]) z
    · omega
  have b1 : ∀ (N1 N2 : Nat → Int32), N1 1 = nI n → N2 1 = nI n → N1 2 = nI v1 → N2 2 = nI v2 → N1 3 = nI k2 → N2 3 = nI k2 → T2 (fun k => x_stepIter k 1 N1 σ1) (fun k => x_stepIter k 1 N2 σ2) (StQ N e' t w XC σ1 σ2) := by
    intro N1 N2 n1 o1 n2 o2' n3 o3'
    refine T2_suc (fun k => by rw [x_stepIter]) (fun k => by rw [x_stepIter]) ?_
    rw [h72, g72, n_sub1 (by omega)]
    refine T2_chk (n_in (by omega) (by omega)) (n_in (by omega) (by omega)) ?_
    rw [n_cl (p := e') (by omega), n3, o3', n_add1]
    show T2 (fun k => x_stepIter k 2 N1 (mAr σ1 35 e' (nI (k2 + 1)))) (fun k => x_stepIter k 2 N2 (mAr σ2 35 e' (nI (k2 + 1)))) _
    generalize hρ1 : mAr σ1 35 e' (nI (k2 + 1)) = ρ1 at fin
    generalize hρ2 : mAr σ2 35 e' (nI (k2 + 1)) = ρ2 at fin
    have o1r : ∀ a, a ≠ 35 → ρ1.2.2 a = σ1.2.2 a := fun a ha => by rw [← hρ1]; exact mAr_o ha
    have o2r : ∀ a, a ≠ 35 → ρ2.2.2 a = σ2.2.2 a := fun a ha => by rw [← hρ2]; exact mAr_o ha
    have sc1 : ρ1.1 = σ1.1 := by rw [← hρ1]; rfl
    have sc2 : ρ2.1 = σ2.1 := by rw [← hρ2]; rfl
    have M1 : MI t X1 g1 l1 B1 h1 ρ1 := by rw [← hρ1]; exact MI_nr (Or.inl rfl) m1
    have M2 : MI t X2 g2 l2 B2 h2 ρ2 := by rw [← hρ2]; exact MI_nr (Or.inl rfl) m2
    have R1 : RA t g1 g2 ρ1 ρ2 := by rw [← hρ1, ← hρ2]; exact RA_nr (Or.inl rfl) hR
    have I1 : IT g1 ρ1 := by rw [← hρ1]; exact IT_35 i1 h72 he y1 gv1 kd1 ln1 hp1 (by omega)
    have I2 : IT g2 ρ2 := by rw [← hρ2]; exact IT_35 i2 g72 he y2 gv2 kd2 ln2 hp2 (by omega)
    have w1' : ρ1.1 57 = nI w := by rw [sc1]; exact w1
    have w2' : ρ2.1 57 = nI w := by rw [sc2]; exact w2
    have e1' : ρ1.1 56 = 0 := by rw [sc1]; exact e1
    have e2' : ρ2.1 56 = 0 := by rw [sc2]; exact e2
    refine T2_suc (fun k => by rw [x_stepIter]) (fun k => by rw [x_stepIter]) ?_
    refine T2_ob (T2_t (s_worked w1' (n := 1) (by omega) rfl) (s_worked w2' (n := 1) (by omega) rfl)) (fun r1 r2 hr' => ?_)
    obtain ⟨⟨_, W1⟩, _, W2⟩ := hr'
    have z1 := WkO_er e1' W1
    have z2 := WkO_er e2' W2
    refine T2_ite (z1.trans z2.symm) (fun er er2 => ?_) (fun er er2 => ?_)
    · have le := z1.mp er
      have q1 : r1.2 = mSc ρ1 57 (nI (w + 1)) := by
        rcases W1 with y | y
        · exact y.2
        · omega
      have q2 : r2.2 = mSc ρ2 57 (nI (w + 1)) := by
        rcases W2 with y | y
        · exact y.2
        · omega
      rw [q1, q2]
      have FE57 : ∀ σ : MS, FE σ (mSc σ 57 (nI (w + 1))) := fun σ => FE_sc (Or.inr (Or.inl rfl))
      have R2 : RA t g1 g2 (mSc ρ1 57 (nI (w + 1))) (mSc ρ2 57 (nI (w + 1))) := by
        refine RA_c R1 rfl rfl rfl rfl rfl rfl rfl rfl (fun j hj => ?_) R1.2.2.2
        show upd ρ1.1 57 (nI (w + 1)) j = upd ρ2.1 57 (nI (w + 1)) j
        by_cases c : j = 57
        · rw [c, upd_same, upd_same]
        · rw [upd_other c, upd_other c]; exact R1.2.2.1 j hj
      have hX2 : EIx t (w + 1) XC (mSc ρ1 57 (nI (w + 1))) (mSc ρ2 57 (nI (w + 1))) g1 l1 B1 h1 X1 g2 l2 B2 h2 X2 := by
        refine ⟨MI_c M1 rfl rfl rfl rfl rfl, MI_c M2 rfl rfl rfl rfl rfl, R2, IT_c rfl rfl rfl rfl I1, IT_c rfl rfl rfl rfl I2, ?_, e1', e2', rfl, ⟨le, hw.2⟩, by omega, by omega, ⟨?_, ?_⟩, a95, ?_, a2⟩
        · show ρ1.1 59 = _
          rw [sc1]; exact t1
        · show TyT (ρ1.2.2 2)
          rw [o1r 2 (by decide)]; exact ty1
        · show ρ1.2.2 2 = ρ2.2.2 2
          rw [o1r 2 (by decide), o2r 2 (by decide)]; exact ty2
        · show ρ1.1 95 = _
          rw [sc1]; exact a1
      have hST : STb T FN (mSc ρ1 57 (nI (w + 1))) := STb_b hS1 (fun j hj => by show upd ρ1.1 57 _ j = _; rw [upd_other (by omega), sc1]) (fun a i h => by show ρ1.2.2 a i = _; rw [o1r a (by omega)])
      have hCx : Cx lc fu dp (e' + 1) (mSc ρ1 57 (nI (w + 1))) := Cx_b hC (fun j hj => by show upd ρ1.1 57 _ j = _; rw [upd_other (by omega), sc1]) (kC_c (fun i => by show ρ1.2.2 20 i = _; rw [o1r 20 (by decide)]) (fun i _ => by show ρ1.2.2 21 i = _; rw [o1r 21 (by decide)]) (by show ρ1.1 30 = _; rw [sc1])) (fun i _ _ => by show ρ1.2.2 30 i = _; rw [o1r 30 (by decide)])
      have hN2 : ∀ a i, NmP T (mSc ρ1 57 (nI (w + 1))) (T 6 n) a i → N a i := fun a i z => hN a i ((NmP_c (by show ρ1.1 69 = _; rw [sc1]) (by show ρ1.1 67 = _; rw [sc1]) (by show ρ1.2.2 30 1 = _; rw [o1r 30 (by decide)])).mp z)
      have c28 : (mSc ρ1 57 (nI (w + 1))).2.2 28 = σ1.2.2 28 := o1r 28 (by decide)
      have d28 : (mSc ρ2 57 (nI (w + 1))).2.2 28 = σ2.2.2 28 := o2r 28 (by decide)
      have c34 : (mSc ρ1 57 (nI (w + 1))).2.2 34 e' = nI v1 := by
        show ρ1.2.2 34 e' = _
        rw [o1r 34 (by decide)]; exact y1
      have d34 : (mSc ρ2 57 (nI (w + 1))).2.2 34 e' = nI v2 := by
        show ρ2.2.2 34 e' = _
        rw [o2r 34 (by decide)]; exact y2
      have F1 : FE ρ1 (mSc ρ1 57 (nI (w + 1))) := FE57 ρ1
      have F2 : FE ρ2 (mSc ρ2 57 (nI (w + 1))) := FE57 ρ2
      have hO2 : OE g1 g2 ((mSc ρ1 57 (nI (w + 1))).2.2 28) ((mSc ρ2 57 (nI (w + 1))).2.2 28) v1 v2 kk p2 := by rw [c28, d28]; exact hO0
      generalize mSc ρ1 57 (nI (w + 1)) = υ1 at *
      generalize mSc ρ2 57 (nI (w + 1)) = υ2 at *
      rw [n1, o1, n2, o2', n3, o3']
      by_cases k5 : 5 ≤ kk
      · refine T2_ob (T2_t (s_memY (σ := υ1) (n := p2) (kk := kk) (j := k2) o13 (by rw [c28]; exact o9) k5 o5.2 hkp rfl rfl) (s_memY (σ := υ2) (n := p2) (kk := kk) (j := k2) o14 (by rw [d28]; exact o10) k5 o5.2 hkp rfl rfl)) (fun u1 u2 hu => ?_)
        rw [hu.1, hu.2]
        refine T2_ob (E_bind (i0 := e') (k := k2) (p := p2) (v1 := v1) (v2 := v2) hXC hST ⟨_, _, _, _, _, _, _, _, _, _, hX2⟩ hCx hn hq hW hN2 (by omega) (by omega) c34 d34 bv1 bv2 (by rw [c28, o7]; exact k5) (by rw [c28]; exact ln1) o6 hkp rfl rfl rfl rfl) (fun v1 v2 hv => ?_)
        obtain ⟨g1', g2', hv⟩ := hv
        exact fin _ _ _ _ (FE_tr (FE_n F1) g1') (FE_tr (FE_n F2) g2') hv
      · have k4 : kk = 4 := by omega
        subst k4
        have q59 : υ1.1 59 = nI t := hX2.2.2.2.2.2.1
        have u59 : υ2.1 59 = nI t := (hX2.2.2.1.2.2.1 59 (by unfold AlS; omega)).symm.trans q59
        have P1 : VP g1 l1 B1 h1 t υ1 := ⟨hX2.1.1, q59, by omega, ⟨0, hX2.2.2.2.2.2.2.1, by decide⟩⟩
        have P2 : VP g2 l2 B2 h2 t υ2 := ⟨hX2.2.1.1, u59, by omega, ⟨0, hX2.2.2.2.2.2.2.2.1, by decide⟩⟩
        refine T2_ob (T2_of (Tm_and (s_memberAt (v := v1) (n := p2) (i := k2) P1 gv1 (by rw [c28]; exact kd1) (by rw [c28]; exact ln1) hkp o6 rfl rfl) (s_memX (v := v1) (n := p2) (j := k2) hX2.1.1 (by omega) hX2.2.2.2.2.2.2.1 o13 (by rw [c28]; exact o9) hkp rfl rfl)) (Tm_and (s_memberAt (v := v2) (n := p2) (i := k2) P2 gv2 (by rw [d28]; exact kd2) (by rw [d28]; exact ln2) hkp o6 rfl rfl) (s_memX (v := v2) (n := p2) (j := k2) hX2.2.1.1 (by omega) hX2.2.2.2.2.2.2.2.1 o14 (by rw [d28]; exact o10) hkp rfl rfl)) (fun n' => Pm_wl (fun k => wl_memberAt k _ _ _) (fun k => wl_memberAt k _ _ _) (k_memberAt hX2.1.1 hX2.2.1.1 hX2.2.2.2.2.2.2.1 hX2.2.2.2.2.2.2.2.1 (by omega) (by omega) hO2 (by omega) hkp rfl rfl rfl rfl))) (fun u1 u2 hu => ?_)
        obtain ⟨⟨kq, wl1, wl2⟩, ⟨va, xa1, xa2, xa3, xa4⟩, ⟨vb, xb1, xb2, xb3, xb4⟩⟩ := hu
        obtain ⟨gC, lC, hC', gD, lD, hD', p1', p2', p3', p4', p5', p6', p7', p8', p9', p10'⟩ := KQ_gr (by omega) hX2.1.1 hX2.2.1.1 va vb kq xa2
        obtain ⟨q1', q2', q3'⟩ := RA_gr hX2.1 hX2.2.1 hX2.2.2.1 p1' p2' p3' p4' (p5'.trans p6'.symm) (by rw [wl1, wl2]; exact hX2.2.2.1.2.2.2)
        have eo1 := (MI_gr hX2.1 p1' p3').2
        have eo2 := (MI_gr hX2.2.1 p2' p4').2
        have G1 : FE υ1 u1.2 := FE_eo hX2.1.2.1 eo1
        have G2 : FE υ2 u2.2 := FE_eo hX2.2.1.2.1 eo2
        obtain ⟨_, _, _, i1', i2', _, _, _, w57, hw', x1', x2', ⟨ty1', ty2'⟩, c95, b95, b95'⟩ := id hX2
        have hX3 : EIx t (w + 1) XC u1.2 u2.2 gC lC B1 hC' X1 gD lD B2 hD' X2 := ⟨q1', q2', q3', IT_eo hX2.1.2.1 hX2.1.1 (Or.inr ⟨B1, hC', p1'.1⟩) eo1 i1', IT_eo hX2.2.1.2.1 hX2.2.1.1 (Or.inr ⟨B2, hD', p2'.1⟩) eo2 i2', p5', xa2, xb2, (p3'.1 57 (by decide)).trans w57, ⟨hw'.1, by omega, by omega⟩, x1', x2', ⟨by rw [G1.2.2.1]; exact ty1', by rw [G1.2.2.1, G2.2.2.1]; exact ty2'⟩, c95, (p3'.1 95 (by decide)).trans b95, b95'⟩
        have bh1 := HS_b m1.1
        have bh2 := HS_b m2.1
        rw [xa1, xb1] at p8'
        have gm1 : gC h1 := by
          obtain ⟨z1, z2, c1, c2, c3, c4, c5, c6, c7⟩ := p8'
          have ea : h1 = z1 := (n_eq (by omega) (by omega)).mp c1
          rw [ea]
          have hB := m1.1.2.1
          obtain ⟨vv, _, _, hvb⟩ := HS_at m1.1 gv1
          exact c2.resolve_left (by have := hvb; omega)
        have gm2 : gD h2 := by
          obtain ⟨z1, z2, c1, c2, c3, c4, c5, c6, c7⟩ := p8'
          have ea : h2 = z2 := (n_eq (by omega) (by omega)).mp c3
          rw [ea]
          exact c4.resolve_left (by obtain ⟨_, _, _, _, _, hvb1, hvb2⟩ := HS_at m2.1 gv2; omega)
        rw [xa1, xb1]
        refine T2_ob (E_bindL (m1 := h1) (m2 := h2) hXC (STb_fe hST G1) hX3 (Cx_fe hCx G1) hn hq hW (fun a i z => hN2 a i ((NmP_fe G1).mp z)) (by omega) (by omega) gm1 gm2 p8' xa3 xb3 xa4 xb4 rfl rfl rfl rfl) (fun s1 s2 hs => ?_)
        obtain ⟨g1', g2', hs⟩ := hs
        exact fin _ _ _ _ (FE_tr (FE_n F1) (FE_tr (FE_n G1) g1')) (FE_tr (FE_n F2) (FE_tr (FE_n G2) g2')) hs
    · have q1 : r1.2 = mEr (mSc ρ1 57 (nI (w + 1))) (nI 11) := by
        rcases W1 with y | y
        · exact absurd (z1.mpr y.1) er
        · exact y.2
      have q2 : r2.2 = mEr (mSc ρ2 57 (nI (w + 1))) (nI 11) := by
        rcases W2 with y | y
        · exact absurd (z2.mpr y.1) er2
        · exact y.2
      rw [q1, q2]
      refine fin _ _ _ _ (FE_n (FE_tr (FE_sc (Or.inr (Or.inl rfl))) FE_er)) (FE_n (FE_tr (FE_sc (Or.inr (Or.inl rfl))) FE_er)) (Or.inr ⟨?_, ?_⟩)
      · exact EZ_er (w := w + 1) (MI_c M1 rfl rfl rfl rfl rfl) (by omega) (by show ρ1.1 59 = _; rw [sc1]; exact t1) e1' rfl (by omega) ⟨a95, by show ρ1.1 95 = _; rw [sc1]; exact a1, a2⟩ (by decide) (by decide) (Nat.le_refl _) (Nat.le_refl _)
      · exact EZ_er (w := w + 1) (MI_c M2 rfl rfl rfl rfl rfl) (by omega) (by show ρ2.1 59 = _; rw [sc2]; exact t2) e2' rfl (by omega) ⟨a95, by show ρ2.1 95 = _; rw [sc2]; exact a3, a2⟩ (by decide) (by decide) (Nat.le_refl _) (Nat.le_refl _)
  exact b1 _ _ d1 d2 rfl rfl rfl rfl
end STE
end JnS218
section JnS219
/-! Evaluation on both sides (reference): iterators go on. -/
section RMS
variable {T : Nat → Nat → Int32} {FN : Nat → Nat → Prop} {O r K d t u w XC : Nat} {lc : Nat → Prop} {σ σ1 σ2 τ τ1 τ2 ρ : MS} {g : Nat → Prop} {l : List Nat} {B h X a i : Nat}
theorem Rm_h {c : Nat} (hS : HS g l B h σ) (hr : Rm c σ) : h + c ≤ B + 870000 := by
  obtain ⟨B', h', r1, r2, r3, r4⟩ := hr
  have hb := HS_b hS
  have hB := hS.2.1
  have e1 : B = B' := (n_eq (by omega) (by omega)).mp (hS.1.symm.trans r1)
  have e2 : h = h' := (n_eq (by omega) (by omega)).mp (hS.2.2.1.symm.trans r3)
  omega
theorem Rm_c {c : Nat} (h54 : τ.1 54 = σ.1 54) (h55 : τ.1 55 = σ.1 55) (hr : Rm c σ) : Rm c τ := by
  unfold Rm; rw [h54, h55]; exact hr
theorem Rm_mo {c c' : Nat} (h : c' ≤ c) (hr : Rm c σ) : Rm c' σ := by
  obtain ⟨B', h', r1, r2, r3, r4⟩ := hr
  exact ⟨B', h', r1, r2, r3, by omega⟩
theorem EI_rm (hE : EI t w XC σ1 σ2) : Rm (XC - 400000 + 10) σ1 ∧ Rm (XC - 400000 + 10) σ2 := by
  obtain ⟨g1, l1, B1, h1, X1, g2, l2, B2, h2, X2, m1, m2, hR, i1, i2, t1, e1, e2, w1, hw, _⟩ := hE
  exact ⟨Rm_HS m1.1 (by omega), Rm_HS m2.1 (by omega)⟩
/-- more room, another bound -/
theorem EIx_up {g1 g2 : Nat → Prop} {l1 l2 : List Nat} {B1 h1 X1 B2 h2 X2 XC' : Nat} (hX : EIx t w XC σ1 σ2 g1 l1 B1 h1 X1 g2 l2 B2 h2 X2) (hc : XC ≤ XC') (r1 : h1 + (XC' - 400000) + 10 ≤ B1 + 870000) (r2 : h2 + (XC' - 400000) + 10 ≤ B2 + 870000) : EI t w XC' σ1 σ2 := by
  obtain ⟨m1, m2, hR, i1, i2, t1, e1, e2, w1, hw, x1, x2, y⟩ := hX
  exact ⟨g1, l1, B1, h1, X1, g2, l2, B2, h2, X2, m1, m2, hR, i1, i2, t1, e1, e2, w1, ⟨hw.1, r1, r2⟩, by omega, by omega, y⟩
theorem EI_50 {x : Int32} (hE : EI t w XC σ1 σ2) : EI t w XC (mAr σ1 50 i x) (mAr σ2 50 i x) := by
  obtain ⟨g1, l1, B1, h1, X1, g2, l2, B2, h2, X2, m1, m2, hR, i1, i2, t1, e1, e2, w1, hw, x1, x2, ⟨ty1, ty2⟩, y⟩ := hE
  have o : ∀ (σ : MS) a, a ≠ 50 → (mAr σ 50 i x).2.2 a = σ.2.2 a := fun σ a ha => mAr_o ha
  exact ⟨g1, l1, B1, h1, X1, g2, l2, B2, h2, X2, MI_nr (Or.inr rfl) m1, MI_nr (Or.inr rfl) m2, RA_nr (Or.inr rfl) hR, IT_c (σ := σ1) rfl (o _ 34 (by decide)) (o _ 35 (by decide)) (o _ 28 (by decide)) i1, IT_c (σ := σ2) rfl (o _ 34 (by decide)) (o _ 35 (by decide)) (o _ 28 (by decide)) i2, t1, e1, e2, w1, hw, x1, x2, ⟨by rw [o _ 2 (by decide)]; exact ty1, by rw [o _ 2 (by decide), o _ 2 (by decide)]; exact ty2⟩, y⟩
/-- fewer iterators -/
theorem RtP_72 {e e' b j : Nat} (h72 : σ.1 72 = nI e) (h4 : e ≤ 4000) (he : e' ≤ e) (hR : RtP t (mSc σ 72 (nI e')) b j) : RtP t σ b j := by
  have e1 : ((mSc σ 72 (nI e')).1 72).toNatClampNeg = e' := n_cl (p := e') (by omega)
  have e2 : (σ.1 72).toNatClampNeg = e := by rw [h72]; exact n_cl (by omega)
  have e3 : (mSc σ 72 (nI e')).1 63 = σ.1 63 := rfl
  have e4 : (mSc σ 72 (nI e')).2.2 = σ.2.2 := rfl
  unfold RtP at hR ⊢
  rw [e1, e3, e4] at hR
  rw [e2]
  rcases hR with z | z | z | z | z | z | z | z | z
  · exact Or.inl z
  · exact Or.inr (Or.inl z)
  · exact Or.inr (Or.inr (Or.inl z))
  · exact Or.inr (Or.inr (Or.inr (Or.inl z)))
  · exact Or.inr (Or.inr (Or.inr (Or.inr (Or.inl ⟨z.1, by omega⟩))))
  · exact Or.inr (Or.inr (Or.inr (Or.inr (Or.inr (Or.inl z)))))
  · exact Or.inr (Or.inr (Or.inr (Or.inr (Or.inr (Or.inr (Or.inl z))))))
  · exact Or.inr (Or.inr (Or.inr (Or.inr (Or.inr (Or.inr (Or.inr (Or.inl z)))))))
  · exact Or.inr (Or.inr (Or.inr (Or.inr (Or.inr (Or.inr (Or.inr (Or.inr z)))))))
theorem MI_72 {e e' : Nat} (hM : MI t X g l B h σ) (h72 : σ.1 72 = nI e) (h4 : e ≤ 4000) (he : e' ≤ e) : MI t X g l B h (mSc σ 72 (nI e')) := by
  obtain ⟨P, e0, q1, q2, q3, q4, q5, q6⟩ := hM.2.1
  exact MI_re hM rfl rfl rfl ⟨P, e', q1, q2, rfl, by omega, q5, q6⟩ (fun b j z => MI_rt hM (RtP_72 h72 h4 he z))
theorem IT_72 {e e' : Nat} (hI : IT g σ) (h72 : σ.1 72 = nI e) (h4 : e ≤ 4000) (he : e' ≤ e) : IT g (mSc σ 72 (nI e')) := by
  obtain ⟨e0, q1, q2, q3⟩ := hI
  have ee : e0 = e := (n_eq (by omega) (by omega)).mp (q1.symm.trans h72)
  exact ⟨e', rfl, by omega, fun i hi => q3 i (by omega)⟩
theorem EI_72 {e e' : Nat} (hE : EI t w XC σ1 σ2) (h72 : σ1.1 72 = nI e) (h4 : e ≤ 4000) (he : e' ≤ e) : EI t w XC (mSc σ1 72 (nI e')) (mSc σ2 72 (nI e')) := by
  obtain ⟨g1, l1, B1, h1, X1, g2, l2, B2, h2, X2, m1, m2, hR, i1, i2, t1, e1, e2, w1, hw, x1, x2, y⟩ := hE
  have g72 : σ2.1 72 = nI e := (hR.2.2.1 72 (by unfold AlS; omega)).symm.trans h72
  refine ⟨g1, l1, B1, h1, X1, g2, l2, B2, h2, X2, MI_72 m1 h72 h4 he, MI_72 m2 g72 h4 he, ⟨fun b j z hv => hR.1 b j (RtP_72 h72 h4 he z) hv, fun b j hb hz hn => hR.2.1 b j hb hz (fun z => hn ?_), fun j hj => ?_, hR.2.2.2⟩, IT_72 i1 h72 h4 he, IT_72 i2 g72 h4 he, t1, e1, e2, w1, hw, x1, x2, y⟩
  · have s72 : (mSc σ1 72 (nI e')).1 72 = nI e' := rfl
    have s63 : (mSc σ1 72 (nI e')).1 63 = σ1.1 63 := rfl
    have s22 : (mSc σ1 72 (nI e')).1 22 = σ1.1 22 := rfl
    have s24 : (mSc σ1 72 (nI e')).1 24 = σ1.1 24 := rfl
    have s30 : (mSc σ1 72 (nI e')).1 30 = σ1.1 30 := rfl
    have s44 : (mSc σ1 72 (nI e')).1 44 = σ1.1 44 := rfl
    unfold InA at z ⊢
    rw [h72, n_cl (p := e) (by omega)] at z
    rw [s72, s63, s22, s24, s30, s44, n_cl (p := e') (by omega)]
    rcases z with z | z | z | z | z
    · exact Or.inl z
    · exact Or.inr (Or.inl z)
    · exact Or.inr (Or.inr (Or.inl z))
    · exact Or.inr (Or.inr (Or.inr (Or.inl ⟨z.1, by omega⟩)))
    · exact Or.inr (Or.inr (Or.inr (Or.inr z)))
  · show upd σ1.1 72 (nI e') j = upd σ2.1 72 (nI e') j
    by_cases c : j = 72
    · rw [c, upd_same, upd_same]
    · rw [upd_other c, upd_other c]; exact hR.2.2.1 j hj
theorem EZ_72 {a b e e' : Nat} (h : EZ a b σ) (h72 : σ.1 72 = nI e) (h4 : e ≤ 4000) (he : e' ≤ e) : EZ a b (mSc σ 72 (nI e')) := by
  obtain ⟨g, l, B, h', t, m, c1, c2, c3, c4, c5, c6, c7⟩ := h
  exact ⟨g, l, B, h', t, MI_72 m h72 h4 he, c1, c2, c3, c4, ErB_c rfl c5, c6, c7⟩
theorem EI_x50 (hE : EI t w XC σ1 σ2) : σ2.1 72 = σ1.1 72 := by
  obtain ⟨_, _, _, _, _, _, _, _, _, _, _, _, hR, _⟩ := hE
  exact (hR.2.2.1 72 (by unfold AlS; omega)).symm
end RMS
/-- j iterators of it are open above e0 -/
def GIt (e0 j : Nat) (it : Nat → Nat) (τ τ' : MS) : Prop := τ.1 72 = nI (e0 + j) ∧ ∀ i, i < j → τ.2.2 50 (e0 + i) = nI (it i) ∧ τ'.2.2 50 (e0 + i) = nI (it i) ∧ τ'.1 72 = nI (e0 + j)
/-- behind goOn -/
def GnQ (N : Nat → Nat → Prop) (b e0 m t w XC : Nat) (it : Nat → Nat) (σ1 σ2 : MS) (r1 r2 : Int32 × MS) : Prop := FI N e0 σ1 r1.2 ∧ FI N e0 σ2 r2.2 ∧ r1.1 = r2.1 ∧ ((∃ w', w ≤ w' ∧ EI t w' XC r1.2 r2.2 ∧ ((r1.1 = 1 ∧ w + 1 ≤ w' ∧ GIt e0 m it r1.2 r2.2) ∨ (r1.1 = 0 ∧ r1.2.1 72 = nI e0 ∧ Rm 79900 r1.2 ∧ Rm 79900 r2.2))) ∨ (r1.1 = 0 ∧ EZ t b r1.2 ∧ EZ t b r2.2 ∧ (∃ e1, e0 ≤ e1 ∧ e1 ≤ 4000 ∧ r1.2.1 72 = nI e1) ∧ ∃ e1, e0 ≤ e1 ∧ e1 ≤ 4000 ∧ r2.2.1 72 = nI e1))
section EGN
variable {T : Nat → Nat → Int32} {FN : Nat → Nat → Prop} {O r K d t u w XC : Nat} {lc : Nat → Prop} {σ σ1 σ2 τ τ1 τ2 ρ : MS}
theorem GIt_fe {e0 j : Nat} {it : Nat → Nat} {ρ' : MS} (h : GIt e0 j it τ τ1) (h4 : e0 + j ≤ 4000) (f : FE τ ρ) (f' : FE τ1 ρ') : GIt e0 j it ρ ρ' := by
  refine ⟨(f.1 72 (by unfold AlS; omega) (by decide) (by decide) (by decide)).trans h.1, fun i hi => ?_⟩
  obtain ⟨h1, h2, h3⟩ := h.2 i hi
  rw [f.2.1 50 (e0 + i) (by unfold AlR; omega) (by unfold Zn; omega) (by rw [h.1, n_cl (p := e0 + j) (by omega)]; omega), f'.2.1 50 (e0 + i) (by unfold AlR; omega) (by unfold Zn; omega) (by rw [h3, n_cl (p := e0 + j) (by omega)]; omega)]
  exact ⟨h1, h2, (f'.1 72 (by unfold AlS; omega) (by decide) (by decide) (by decide)).trans h3⟩
theorem NmP_fi {T : Nat → Nat → Int32} {N : Nat → Nat → Prop} {e0 a i : Nat} {x : Int32} (f : FI N e0 τ ρ) : NmP T ρ x a i ↔ NmP T τ x a i := NmP_c (f.1 69 (by unfold AlS; omega) (by decide) (by decide) (by decide) (by decide)) (f.1 67 (by unfold AlS; omega) (by decide) (by decide) (by decide) (by decide)) ((FI_b f).2.2.1 1 (by unfold Zn; omega))
theorem GIt_mo {e0 j j' : Nat} {it : Nat → Nat} (h : GIt e0 j it τ τ1) (hj : j' ≤ j) : GIt e0 j' it (mSc τ 72 (nI (e0 + j'))) (mSc τ1 72 (nI (e0 + j'))) := ⟨rfl, fun i hi => ⟨(h.2 i (by omega)).1, (h.2 i (by omega)).2.1, rfl⟩⟩
end EGN
end JnS219
