/-! Evaluation on both sides (reference): iterators go on: the loop. -/
section EGM
variable {T : Nat → Nat → Int32} {FN : Nat → Nat → Prop} {O r K d t u w XC : Nat} {lc : Nat → Prop} {σ σ1 σ2 τ τ1 τ2 ρ : MS}
theorem ms_ex (m : Nat) : ∃ ms : Nat → Nat, (∀ a b, a ≤ b → ms b ≤ ms a) ∧ (∀ a, a + 1 ≤ 60000 → ms (a + 1) + (2 * m + 4) ≤ ms a) := by
  refine ⟨fun w => (60001 - w) * (2 * m + 4), fun a b h => Nat.mul_le_mul_right _ (by omega), fun a h => ?_⟩
  obtain ⟨x, hx⟩ : ∃ x, 60001 - (a + 1) = x := ⟨_, rfl⟩
  have e : 60001 - a = x + 1 := by omega
  show (60001 - (a + 1)) * (2 * m + 4) + (2 * m + 4) ≤ (60001 - a) * (2 * m + 4)
  rw [e, hx, Nat.add_mul, Nat.one_mul]
  exact Nat.le_refl _
theorem Rm_h2 {g : Nat → Prop} {l : List Nat} {B h a c : Nat} (hS : HS g l B h σ) (hr : Rm (a + c) σ) : h + a + c ≤ B + 870000 := by
  have := Rm_h hS hr
  omega
theorem xc_ex {c : Nat} (h1 : c + 5 ≤ 1300) (h2 : XC + 5 * (c + 5) ≤ 408500) : ∃ XC', XC ≤ XC' ∧ XC' + 5 * c ≤ 408500 ∧ XC - 400000 + 15 ≤ XC' - 400000 + 10 ∧ XC' - 400000 + 10 ≤ 79900 := by
  obtain ⟨y, y1, y2⟩ : ∃ y, 400000 ≤ y ∧ y = max XC 400000 + 5 := ⟨_, by omega, rfl⟩
  exact ⟨y, by omega, by omega, by omega, by omega⟩
theorem b_goOn {N : Nat → Nat → Prop} {c e0 m w0 t0 : Nat} {it : Nat → Nat} (hE : PE T FN c) (hO : 1 ≤ O) (hP : PC T FN O r K lc (c + 5) t0 w0 XC σ1) (h72 : σ1.1 72 = nI e0) (he0 : e0 + K ≤ 1260) (hS2 : STb T FN σ2) (hm : 1 ≤ m) (hIt : Its T FN (O - 1) m K lc it) (hN : ∀ j, j < m → ∀ a i, NmP T σ1 (T 6 (it j)) a i → N a i) (ht9 : t ≤ 176000) (hw0 : w0 ≤ w) (htw : t + w0 ≤ t0 + 1200 + w) {j0 : Nat} (hj0 : j0 ≤ m) {x : Nat} (hx : (x = 0 ∧ 1 ≤ j0) ∨ (x = 1 ∧ j0 < m)) (f1 : FI N e0 σ1 τ1) (f2 : FI N e0 σ2 τ2) (hG : GIt e0 j0 it τ1 τ2) (hI : EI t w XC τ1 τ2) {L1 L2 : Nat → Int32} (d1 : L1 1 = nI e0) (d2 : L2 1 = nI e0) (c1 : L1 2 = nI (it 0)) (c2 : L2 2 = nI (it 0)) (a1 : L1 3 = nI x) (a2 : L2 3 = nI x) : T2 (fun k => x_GV k (c + 2) 6 0 L1 τ1) (fun k => x_GV k (c + 2) 6 0 L2 τ2) (GnQ N (178000 + c) e0 m t w XC it σ1 σ2) := by
  have hXC := hP.2.1
  have hd13 := hP.2.2.2.2.1
  have hS1 := hP.1
  have hmK : m ≤ K := by
    have := (hIt (m - 1) (by omega)).2.1
    omega
  have hCx : ∃ fu dp, Cx lc fu dp e0 σ1 := by
    obtain ⟨_, _, _, _, _, _, _, fu, dp, e, cc, ce, _⟩ := hP
    have := cc.2.1
    have ee : e = e0 := (n_eq (by omega) (by omega)).mp (cc.2.2.2.2.1.symm.trans h72)
    subst ee
    exact ⟨fu, dp, cc⟩
  obtain ⟨fu, dp, hC0⟩ := hCx
  have tb : ∀ (τ1 τ2 : MS), FI N e0 σ1 τ1 → FI N e0 σ2 τ2 → ∀ a i, 4 ≤ a → a ≤ 9 → (1 ≤ i ∧ i < LNo T % 70001) → τ1.2.2 a i = T a i ∧ τ2.2.2 a i = T a i := fun τ1 τ2 f1 f2 a i h1 h2 h3 => ⟨(STb_fi hS1 f1).1 a i h1 (by omega) ⟨fun _ => h3, fun z => by omega⟩, (STb_fi hS2 f2).1 a i h1 (by omega) ⟨fun _ => h3, fun z => by omega⟩⟩
  obtain ⟨XC', hc1, hc2, hc3, hc4⟩ := xc_ex (XC := XC) (c := c) hd13.1 hd13.2
  obtain ⟨ms, hms1, hms2⟩ : ∃ ms : Nat → Nat, (∀ a b, a ≤ b → ms b ≤ ms a) ∧ (∀ a, a + 1 ≤ 60000 → ms (a + 1) + (2 * m + 4) ≤ ms a) := ms_ex m
  -- the loop
  have b1 : ∀ (q j w' x : Nat) (N1 N2 : Nat → Int32) (τ1 τ2 : MS), ms w' + x * (m + 2) + j < q → j ≤ m → ((x = 0) ∨ (x = 1 ∧ j < m)) → N1 1 = nI e0 → N2 1 = nI e0 → N1 2 = nI (it 0) → N2 2 = nI (it 0) → N1 4 = nI x → N2 4 = nI x → FI N e0 σ1 τ1 → FI N e0 σ2 τ2 → GIt e0 j it τ1 τ2 → w ≤ w' → EI t w' XC τ1 τ2 → T2 (fun k => x_GV k (c + 2) 6 1 N1 τ1) (fun k => x_GV k (c + 2) 6 1 N2 τ2) (GnQ N (178000 + c) e0 m t w XC it σ1 σ2) := by
    intro q
    induction q with
    | zero => intro j w' x N1 N2 τ1 τ2 h; exact absurd h (Nat.not_lt_zero _)
    | succ q ih =>
    intro j w' x N1 N2 τ1 τ2 hq hj hx n1 o1 n2 o2 n4 o4 f1 f2 hG hw' hI
    -- a step
    have b7 : ∀ (j' w2 : Nat) (M1 M2 : Nat → Int32) (υ1 υ2 : MS), j' < m → ms w2 + j' < q → M1 1 = nI e0 → M2 1 = nI e0 → M1 2 = nI (it 0) → M2 2 = nI (it 0) → FI N e0 σ1 υ1 → FI N e0 σ2 υ2 → GIt e0 (j' + 1) it υ1 υ2 → w ≤ w2 → EI t w2 XC υ1 υ2 → Rm (XC - 400000 + 15) υ1 → Rm (XC - 400000 + 15) υ2 → T2 (fun k => x_GV k (c + 2) 6 7 M1 υ1) (fun k => x_GV k (c + 2) 6 7 M2 υ2) (GnQ N (178000 + c) e0 m t w XC it σ1 σ2) := by
      intro j' w2 M1 M2 υ1 υ2 hj' hq' m1 l1 m2 l2 g1 g2 hG' hw2 hJ rm1 rm2
      obtain ⟨i1, i2, ⟨iq, ifl, iqb, W6⟩, _, i5, i6⟩ := hIt j' hj'
      have v72 : υ1.1 72 = nI (e0 + j' + 1) := hG'.1
      have u72 : υ2.1 72 = nI (e0 + j' + 1) := (EI_x50 hJ).trans v72
      have v50 : υ1.2.2 50 (e0 + j') = nI (it j') := (hG'.2 j' (by omega)).1
      have u50 : υ2.2.2 50 (e0 + j') = nI (it j') := (hG'.2 j' (by omega)).2.1
      obtain ⟨gA, lA, BA, hA, XA, gB, lB, BB, hB, XB, hX⟩ := id hJ
      refine T2_suc (fun k => e_goOn_7 k _ _ _) (fun k => e_goOn_7 k _ _ _) ?_
      rw [v72, u72, n_sub1 (by omega)]
      refine T2_chk (n_in (by omega) (by omega)) (n_in (by omega) (by omega)) ?_
      rw [n_cl (p := e0 + j') (by omega), v50, u50]
      refine T2_ob (E_step (e' := e0 + j') (fu := fu) (dp := dp) hXC ht9 (STb_fi hS1 g1) hX ⟨Rm_h2 hX.1.1 rm1, Rm_h2 hX.2.1.1 rm2⟩ (Cx_fi hC0 g1 v72) (by omega) i1 iqb W6 (fun a i z => hN j' hj' a i ((NmP_fi g1).mp z)) rfl rfl) (fun s1 s2 hs => ?_)
      obtain ⟨h12, hs⟩ := hs
      -- behind the step
      have b8 : ∀ (A1 A2 : Nat → Int32) (ω1 ω2 : MS), A1 1 = nI e0 → A2 1 = nI e0 → A1 2 = nI (it 0) → A2 2 = nI (it 0) → FI N e0 σ1 ω1 → FI N e0 σ2 ω2 → ((A1 4 = 0 ∧ A2 4 = 0 ∧ GIt e0 j' it ω1 ω2 ∧ EI t w2 XC ω1 ω2) ∨ (A1 4 = 1 ∧ A2 4 = 1 ∧ GIt e0 (j' + 1) it ω1 ω2 ∧ EI t (w2 + 1) XC ω1 ω2) ∨ (A1 4 = 0 ∧ A2 4 = 0 ∧ EZ t (178000 + c) ω1 ∧ EZ t (178000 + c) ω2 ∧ ω1.1 72 = nI (e0 + j' + 1) ∧ ω2.1 72 = nI (e0 + j' + 1))) → T2 (fun k => x_GV k (c + 2) 6 8 A1 ω1) (fun k => x_GV k (c + 2) 6 8 A2 ω2) (GnQ N (178000 + c) e0 m t w XC it σ1 σ2) := by
        intro A1 A2 ω1 ω2 p1 p1' p2 p2' k1 k2 hor
        refine T2_suc (fun k => e_goOn_8 k _ _ _) (fun k => e_goOn_8 k _ _ _) ?_
        rcases hor with ⟨y1, y2, y3, y4⟩ | ⟨y1, y2, y3, y4⟩ | ⟨y1, y2, y3, y4, y5, y6⟩
        · rw [y1, y2]
          refine T2_ite Iff.rfl (fun _ _ => ?_) (fun z _ => absurd rfl z)
          exact ih j' w2 0 _ _ ω1 ω2 (by omega) (by omega) (Or.inl rfl) p1 p1' p2 p2' y1 y2 k1 k2 y3 hw2 y4
        · rw [y1, y2]
          have z50 : ω2.2.2 50 (e0 + j') = nI (it j') := (y3.2 j' (by omega)).2.1
          have z72 : ω2.1 72 = nI (e0 + j' + 1) := (EI_x50 y4).trans y3.1
          have x72 : ω1.1 72 = nI (e0 + j' + 1) := y3.1
          refine T2_ite Iff.rfl (fun z _ => absurd z (by decide)) (fun _ _ => ?_)
          rw [x72, z72, n_sub1 (by omega)]
          refine T2_chk (n_in (by omega) (by omega)) (n_in (by omega) (by omega)) ?_
          rw [n_cl (p := e0 + j') (by omega), z50, (y3.2 j' (by omega)).1]
          refine T2_chk (n_in (by omega) (by omega)) (n_in (by omega) (by omega)) ?_
          rw [n_cl (p := it j') (by omega), (tb _ _ k1 k2 9 _ (by omega) (by omega) (by omega)).1, (tb _ _ k1 k2 9 _ (by omega) (by omega) (by omega)).2]
          by_cases last : j' + 1 = m
          · rw [i6 last]
            refine T2_ite Iff.rfl (fun _ _ => ?_) (fun z _ => absurd rfl z)
            refine T2_some ⟨k1, k2, rfl, Or.inl ⟨w2 + 1, by omega, y4, Or.inl ⟨rfl, by omega, ?_⟩⟩⟩
            rw [← last]; exact y3
          · rw [i5 (by omega)]
            refine T2_ite Iff.rfl (fun z _ => absurd z (n_neg (hIt (j' + 1) (by omega)).1)) (fun _ _ => ?_)
            have hw60 := EI_w y4
            have me := hms2 w2 hw60
            exact ih (j' + 1) (w2 + 1) 1 _ _ ω1 ω2 (by omega) (by omega) (Or.inr ⟨rfl, by omega⟩) p1 p1' p2 p2' y1 y2 k1 k2 y3 (by omega) y4
        · rw [y1, y2]
          refine T2_ite Iff.rfl (fun _ _ => ?_) (fun z _ => absurd rfl z)
          refine T2_suc (fun k => e_goOn_1 k _ _ _) (fun k => e_goOn_1 k _ _ _) ?_
          refine T2_ite ⟨fun z => absurd z (EZ_e y3), fun z => absurd z (EZ_e y4)⟩ (fun z _ => absurd z (EZ_e y3)) (fun _ _ => ?_)
          refine T2_suc (fun k => e_goOn_9 k _ _ _) (fun k => e_goOn_9 k _ _ _) ?_
          exact T2_some ⟨k1, k2, rfl, Or.inr ⟨rfl, y3, y4, ⟨e0 + j' + 1, by omega, by omega, y5⟩, ⟨e0 + j' + 1, by omega, by omega, y6⟩⟩⟩
      rcases hs with ⟨z0, q1, q2⟩ | ⟨k1, k2, k3, k4, k5, hs⟩
      · -- it is at its end
        have z0' : s2.1 = 0 := h12.symm.trans z0
        rw [z0, z0', q1, q2]
        obtain ⟨e1, e2⟩ := EI_e hJ
        refine T2_ite Iff.rfl (fun _ _ => ?_) (fun z _ => absurd rfl z)
        rw [e1, e2, v72, u72, n_sub1 (by omega)]
        refine T2_ite Iff.rfl (fun _ _ => ?_) (fun z _ => absurd rfl z)
        exact b8 _ _ (mSc υ1 72 (nI (e0 + j'))) (mSc υ2 72 (nI (e0 + j'))) m1 l1 m2 l2 (FI_tr g1 FI_72) (FI_tr g2 FI_72) (Or.inl ⟨rfl, rfl, GIt_mo hG' (by omega), EI_72 hJ v72 (by omega) (by omega)⟩)
      have gg1 : FI N e0 σ1 s1.2 := FI_tr g1 (FI_mo (by omega) k1)
      have gg2 : FI N e0 σ2 s2.2 := FI_tr g2 (FI_mo (by omega) k2)
      rcases hs with ⟨z0, hK⟩ | ⟨z0, hz1, hz2⟩
      · have z0' : s2.1 = 1 := h12.symm.trans z0
        rw [z0, z0']
        refine T2_ite Iff.rfl (fun z _ => absurd z (by decide)) (fun _ _ => ?_)
        refine b8 _ _ s1.2 s2.2 m1 l1 m2 l2 gg1 gg2 (Or.inr (Or.inl ⟨rfl, rfl, ⟨k3.trans v72, fun i hi => ?_⟩, hK⟩))
        rw [(k5 (e0 + i) (by omega)).1, (k5 (e0 + i) (by omega)).2]; exact ⟨(hG'.2 i hi).1, (hG'.2 i hi).2.1, k4.trans u72⟩
      · have z0' : s2.1 = 0 := h12.symm.trans z0
        rw [z0, z0']
        refine T2_ite Iff.rfl (fun _ _ => ?_) (fun z _ => absurd rfl z)
        refine T2_ite ⟨fun z => absurd z (EZ_e hz1), fun z => absurd z (EZ_e hz2)⟩ (fun z _ => absurd z (EZ_e hz1)) (fun _ _ => ?_)
        exact b8 _ _ s1.2 s2.2 m1 l1 m2 l2 gg1 gg2 (Or.inr (Or.inr ⟨rfl, rfl, EZ_mo hz1 (Nat.le_refl _) (by omega), EZ_mo hz2 (Nat.le_refl _) (by omega), k3.trans v72, k4.trans u72⟩))
    -- first a sweep
    obtain ⟨e1, e2⟩ := EI_e hI
    refine T2_suc (fun k => e_goOn_1 k _ _ _) (fun k => e_goOn_1 k _ _ _) ?_
    rw [e1, e2]
    refine T2_ite Iff.rfl (fun _ _ => ?_) (fun z _ => absurd rfl z)
    refine T2_ob (E_sw hXC (by omega) hI) (fun r1 r2 hr => ?_)
    obtain ⟨k1, k2, gA, lA, BA, hA, XA, gB, lB, BB, hB, XB, hX, rm1, rm2⟩ := hr
    have hJ : EI t w' XC r1.2 r2.2 := ⟨_, _, _, _, _, _, _, _, _, _, hX⟩
    have t72 : τ1.1 72 = nI (e0 + j) := hG.1
    have t72' : τ2.1 72 = nI (e0 + j) := (EI_x50 hI).trans t72
    have g1 : FI N e0 σ1 r1.2 := FI_tr f1 (FI_fe k1 t72 (by omega) (by omega))
    have g2 : FI N e0 σ2 r2.2 := FI_tr f2 (FI_fe k2 t72' (by omega) (by omega))
    have hG2 := GIt_fe hG (by omega) k1 k2
    have r72 : r1.2.1 72 = nI (e0 + j) := hG2.1
    have r72' : r2.2.1 72 = nI (e0 + j) := (EI_x50 hJ).trans r72
    have mm : ∀ w2, w' ≤ w2 → ms w2 ≤ ms w' := fun w2 h => hms1 w' w2 h
    rw [n4, o4]
    rcases hx with hx0 | ⟨hx1, hjm⟩
    · -- the last one goes on, or all are at their end
      subst hx0
      refine T2_ite Iff.rfl (fun _ _ => ?_) (fun z _ => absurd rfl z)
      refine T2_suc (fun k => e_goOn_6 k _ _ _) (fun k => e_goOn_6 k _ _ _) ?_
      rw [r72, r72', n1, o1]
      refine T2_ite Iff.rfl (fun z _ => ?_) (fun z _ => ?_)
      · have z := (n_eq (by omega) (by omega)).mp z
        have hj0 : j = 0 := by omega
        subst hj0
        exact T2_some ⟨g1, g2, rfl, Or.inl ⟨w', hw', hJ, Or.inr ⟨rfl, r72, Rm_HS hX.1.1 rm1, Rm_HS hX.2.1.1 rm2⟩⟩⟩
      · have hj0 : j ≠ 0 := fun y => z (by rw [y]; rfl)
        obtain ⟨j', rfl⟩ : ∃ j', j = j' + 1 := ⟨j - 1, by omega⟩
        exact b7 j' w' _ _ r1.2 r2.2 (by omega) (by omega) n1 o1 n2 o2 g1 g2 hG2 hw' hJ (Rm_HS hX.1.1 (by omega)) (Rm_HS hX.2.1.1 (by omega))
    · -- the next one is opened
      subst hx1
      obtain ⟨i1, i2, _, ⟨ifl, W7⟩, i5, i6⟩ := hIt j hjm
      have b4 : ∀ (M1 M2 : Nat → Int32), M1 1 = nI e0 → M2 1 = nI e0 → M1 2 = nI (it 0) → M2 2 = nI (it 0) → M1 100 = nI (it j) → M2 100 = nI (it j) → T2 (fun k => x_GV k (c + 2) 6 3 M1 r1.2) (fun k => x_GV k (c + 2) 6 3 M2 r2.2) (GnQ N (178000 + c) e0 m t w XC it σ1 σ2) := by
        intro M1 M2 m1 l1 m2 l2 m100 l100
        refine T2_suc (fun k => e_goOn_3 k _ _ _) (fun k => e_goOn_3 k _ _ _) ?_
        rw [m100, l100]
        refine T2_ite Iff.rfl (fun z _ => absurd z (n_neg i1)) (fun _ _ => ?_)
        refine T2_suc (fun k => e_goOn_4 k _ _ _) (fun k => e_goOn_4 k _ _ _) ?_
        refine T2_od ?_
        have pc1 : PC T FN (O - 1) 14 (K - j) lc c t w' XC r1.2 := PC_fi hP h72 (by omega) g1 r72 hO (by omega) (by omega) (EI_w hJ) (by omega) (by omega) (by omega) (by omega)
        have pc2 : PC T FN (O - 1) 14 (K - j) lc c t w' XC' r1.2 := PC_fi hP h72 (by omega) g1 r72 hO (by omega) (by omega) (EI_w hJ) (by omega) (by omega) (by omega) (by omega)
        have hJ' : EI t w' XC' r1.2 r2.2 := EIx_up hX (by omega) (by omega) (by omega)
        refine T2_ob (T2_and (E_open (e' := e0 + j) (n := it j) hE i1 W7 pc1 hJ r72 (by omega) rfl rfl) (E_open (e' := e0 + j) (n := it j) hE i1 W7 pc2 hJ' r72 (by omega) rfl rfl)) (fun s1 s2 hs => ?_)
        obtain ⟨⟨p1, p2, hs⟩, _, _, hs'⟩ := hs
        have gg1 : FI N e0 σ1 s1.2 := FI_tr g1 (FI_w (FI_mo (by omega) p1))
        have gg2 : FI N e0 σ2 s2.2 := FI_tr g2 (FI_w (FI_mo (by omega) p2))
        rcases hs with ⟨w2, hw2, hK, s72⟩ | ⟨z1, z2, z3, z4⟩
        case inr =>
          refine T2_ite ⟨fun z => absurd z (EZ_le z1), fun z => absurd z (EZ_le z2)⟩ (fun z _ => absurd z (EZ_le z1)) (fun _ _ => ?_)
          exact T2_some ⟨gg1, gg2, rfl, Or.inr ⟨rfl, z1, z2, ⟨e0 + j, by omega, by omega, z3⟩, ⟨e0 + j, by omega, by omega, z4⟩⟩⟩
        obtain ⟨q1, q2⟩ := EI_e hK
        rcases hs' with ⟨w3, _, hK', _⟩ | ⟨z1, _⟩
        case inr => exact absurd q1 (EZ_e z1)
        obtain ⟨rm1', rm2'⟩ := EI_rm hK'
        rw [q1, q2]
        refine T2_ite Iff.rfl (fun _ _ => ?_) (fun z _ => absurd (by decide : (0 : Int32) ≤ 0) z)
        refine T2_suc (fun k => e_goOn_5 k _ _ _) (fun k => e_goOn_5 k _ _ _) ?_
        have s72' : s2.2.1 72 = nI (e0 + j + 1) := (EI_x50 hK).trans s72
        rw [s72, s72', n_sub1 (by omega)]
        refine T2_chk (n_in (by omega) (by omega)) (n_in (by omega) (by omega)) ?_
        rw [n_cl (p := e0 + j) (by omega)]
        show T2 (fun k => x_GV k (c + 2) 6 7 (upd M1 5 (nI (it j))) (mAr s1.2 50 (e0 + j) (nI (it j)))) (fun k => x_GV k (c + 2) 6 7 (upd M2 5 (nI (it j))) (mAr s2.2 50 (e0 + j) (nI (it j)))) _
        have := mm w2 hw2
        refine b7 j w2 _ _ _ _ hjm (by omega) m1 l1 m2 l2 (FI_tr gg1 (FI_50 (by omega))) (FI_tr gg2 (FI_50 (by omega))) ⟨s72, fun i hi => ?_⟩ (by omega) (EI_50 hK) (Rm_c rfl rfl (Rm_mo (by omega) rm1')) (Rm_c rfl rfl (Rm_mo (by omega) rm2'))
        by_cases ei : i = j
        · rw [ei, mAr_s, upd_same, mAr_s, upd_same]; exact ⟨rfl, rfl, s72'⟩
        · rw [mAr_s, upd_other (by omega), mAr_s, upd_other (by omega), p1.2.1 50 (e0 + i) (by unfold AlR; omega) (by unfold Zn; omega) (by omega), p2.2.1 50 (e0 + i) (by unfold AlR; omega) (by unfold Zn; omega) (by omega)]
          exact ⟨(hG2.2 i (by omega)).1, (hG2.2 i (by omega)).2.1, s72'⟩
      refine T2_ite Iff.rfl (fun z _ => absurd z (by decide)) (fun _ _ => ?_)
      rw [r72, r72', n1, o1]
      refine T2_ite Iff.rfl (fun z _ => ?_) (fun z _ => ?_)
      · have z := (n_eq (by omega) (by omega)).mp z
        have hj0 : j = 0 := by omega
        subst hj0
        exact b4 _ _ n1 o1 n2 o2 n2 o2
      · have hj0 : j ≠ 0 := fun y => z (by rw [y]; rfl)
        obtain ⟨j', rfl⟩ : ∃ j', j = j' + 1 := ⟨j - 1, by omega⟩
        have y50 : r1.2.2.2 50 (e0 + j') = nI (it j') := (hG2.2 j' (by omega)).1
        have y50' : r2.2.2.2 50 (e0 + j') = nI (it j') := (hG2.2 j' (by omega)).2.1
        have i9 := (hIt j' (by omega)).2.2.2.2.1 (by omega)
        have ib := (hIt j' (by omega)).1
        refine T2_suc (fun k => e_goOn_2 k _ _ _) (fun k => e_goOn_2 k _ _ _) ?_
        rw [r72, r72', show e0 + (j' + 1) = e0 + j' + 1 from rfl, n_sub1 (by omega)]
        refine T2_chk (n_in (by omega) (by omega)) (n_in (by omega) (by omega)) ?_
        rw [n_cl (p := e0 + j') (by omega), y50, y50']
        refine T2_chk (n_in (by omega) (by omega)) (n_in (by omega) (by omega)) ?_
        rw [n_cl (p := it j') (by omega), (tb _ _ g1 g2 9 _ (by omega) (by omega) (by omega)).1, (tb _ _ g1 g2 9 _ (by omega) (by omega) (by omega)).2, i9]
        exact b4 _ _ n1 o1 n2 o2 rfl rfl
  refine T2_suc (fun k => e_goOn_0 k _ _ _) (fun k => e_goOn_0 k _ _ _) ?_
  exact b1 (ms w + x * (m + 2) + j0 + 1) j0 w x _ _ τ1 τ2 (by omega) hj0 (by omega) d1 d2 c1 c2 a1 a2 f1 f2 hG (Nat.le_refl _) hI
end EGM
