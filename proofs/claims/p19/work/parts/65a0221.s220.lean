section JnS220
/-! Evaluation on both sides (reference): iterators go on: the loop. -/
section EGM
variable {T : Nat → Nat → Int32} {FN : Nat → Nat → Prop} {O r K d t u w XC : Nat} {lc : Nat → Prop} {σ σ1 σ2 τ τ1 τ2 ρ : MS}
theorem ms_ex (m : Nat) : ∃ ms : Nat → Nat, (∀ a b, a ≤ b → ms b ≤ ms a) ∧ (∀ a, a + 1 ≤ 60000 → ms (a + 1) + (2 * m + 4) ≤ ms a) := by
  refine ⟨fun w => (60001 - w) * (2 * m + 4), fun a b h => Nat.mul_le_mul_right _ (by omega), fun a h => ?_⟩
  obtain ⟨x, hx⟩ : ∃ x, 60001 - (a + 1) = x := ⟨_, rfl⟩
  have e : 60001 - a = x + 1 := by omega
  show (60001 - (a + 1)) * (2 * m + 4) + (2 * m + 4) ≤ (60001 - a) * (2 * m + 4)
  rw [e, hx, Nat.add_mul, Nat.one_mul]
  exact Nat.le_refl _
theorem Rm_h2 {g : Nat → Prop} {l : List Nat} {B h a c : Nat} (hS : HS g l B h σ) (hr : Rm (a + c) σ) : h + a + c ≤ B + 870000 := by
  have := Rm_h hS hr
  omega
theorem xc_ex {c : Nat} (h1 : c + 5 ≤ 1300) (h2 : XC + 5 * (c + 5) ≤ 408500) : ∃ XC', XC ≤ XC' ∧ XC' + 5 * c ≤ 408500 ∧ XC - 400000 + 15 ≤ XC' - 400000 + 10 ∧ XC' - 400000 + 10 ≤ 79900 := by
  obtain ⟨y, y1, y2⟩ : ∃ y, 400000 ≤ y ∧ y = max XC 400000 + 5 := ⟨_, by omega, rfl⟩
  exact ⟨y, by omega, by omega, by omega, by omega⟩
theorem b_goOn {N : Nat → Nat → Prop} {c e0 m w0 t0 : Nat} {it : Nat → Nat} (hE : PE T FN c) (hO : 1 ≤ O) (hP : PC T FN O r K lc (c + 5) t0 w0 XC σ1) (h72 : σ1.1 72 = nI e0) (he0 : e0 + K ≤ 1260) (hS2 : STb T FN σ2) (hm : 1 ≤ m) (hIt : Its T FN (O - 1) m K lc it) (hN : ∀ j, j < m → ∀ a i, NmP T σ1 (T 6 (it j)) a i → N a i) (ht9 : t ≤ 176000) (hw0 : w0 ≤ w) (htw : t + w0 ≤ t0 + 1200 + w) {j0 : Nat} (hj0 : j0 ≤ m) {x : Nat} (hx : (x = 0 ∧ 1 ≤ j0) ∨ (x = 1 ∧ j0 < m)) (f1 : FI N e0 σ1 τ1) (f2 : FI N e0 σ2 τ2) (hG : GIt e0 j0 it τ1 τ2) (hI : EI t w XC τ1 τ2) {L1 L2 : Nat → Int32} (d1 : L1 1 = nI e0) (d2 : L2 1 = nI e0) (c1 : L1 2 = nI (it 0)) (c2 : L2 2 = nI (it 0)) (a1 : L1 3 = nI x) (a2 : L2 3 = nI x) : T2 (fun k => x_GV k (c + 2) 6 0 L1 τ1) (fun k => x_GV k (c + 2) 6 0 L2 τ2) (GnQ N (178000 + c) e0 m t w XC it σ1 σ2) := by
  have hXC := hP.2.1
  have hd13 := hP.2.2.2.2.1
  have hS1 := hP.1
  have hmK : m ≤ K := by
    have := (hIt (m - 1) (by omega)).2.1
    omega
  have hCx : ∃ fu dp, Cx lc fu dp e0 σ1 := by
    obtain ⟨_, _, _, _, _, _, _, fu, dp, e, cc, ce, _⟩ := hP
    have := cc.2.1
    have ee : e = e0 := (n_eq (by omega) (by omega)).mp (cc.2.2.2.2.1.symm.trans h72)
    subst ee
    exact ⟨fu, dp, cc⟩
  obtain ⟨fu, dp, hC0⟩ := hCx
  have tb : ∀ (τ1 τ2 : MS), FI N e0 σ1 τ1 → FI N e0 σ2 τ2 → ∀ a i, 4 ≤ a → a ≤ 9 → (1 ≤ i ∧ i < LNo T % 70001) → τ1.2.2 a i = T a i ∧ τ2.2.2 a i = T a i := fun τ1 τ2 f1 f2 a i h1 h2 h3 => ⟨(STb_fi hS1 f1).1 a i h1 (by omega) ⟨fun _ => h3, fun z => by omega⟩, (STb_fi hS2 f2).1 a i h1 (by omega) ⟨fun _ => h3, fun z => by omega⟩⟩
  obtain ⟨XC', hc1, hc2, hc3, hc4⟩ := xc_ex (XC := XC) (c := c) hd13.1 hd13.2
  obtain ⟨ms, hms1, hms2⟩ : ∃ ms : Nat → Nat, (∀ a b, a ≤ b → ms b ≤ ms a) ∧ (∀ a, a + 1 ≤ 60000 → ms (a + 1) + (2 * m + 4) ≤ ms a) := ms_ex m
  -- the loop
  have b1 : ∀ (q j w' x : Nat) (N1 N2 : Nat → Int32) (τ1 τ2 : MS), ms w' + x * (m + 2) + j < q → j ≤ m → ((x = 0) ∨ (x = 1 ∧ j < m)) → N1 1 = nI e0 → N2 1 = nI e0 → N1 2 = nI (it 0) → N2 2 = nI (it 0) → N1 4 = nI x → N2 4 = nI x → FI N e0 σ1 τ1 → FI N e0 σ2 τ2 → GIt e0 j it τ1 τ2 → w ≤ w' → EI t w' XC τ1 τ2 → T2 (fun k => x_GV k (c + 2) 6 1 N1 τ1) (fun k => x_GV k (c + 2) 6 1 N2 τ2) (GnQ N (178000 + c) e0 m t w XC it σ1 σ2) := by
    intro q
    induction q with
    | zero => intro j w' x N1 N2 τ1 τ2 h; exact absurd h (Nat.not_lt_zero _)
    | succ q ih =>
    intro j w' x N1 N2 τ1 τ2 hq hj hx n1 o1 n2 o2 n4 o4 f1 f2 hG hw' hI
    -- a step
    have b7 : ∀ (j' w2 : Nat) (M1 M2 : Nat → Int32) (υ1 υ2 : MS), j' < m → ms w2 + j' < q → M1 1 = nI e0 → M2 1 = nI e0 → M1 2 = nI (it 0) → M2 2 = nI (it 0) → FI N e0 σ1 υ1 → FI N e0 σ2 υ2 → GIt e0 (j' + 1) it υ1 υ2 → w ≤ w2 → EI t w2 XC υ1 υ2 → Rm (XC - 400000 + 15) υ1 → Rm (XC - 400000 + 15) υ2 → T2 (fun k => x_GV k (c + 2) 6 7 M1 υ1) (fun k => x_GV k (c + 2) 6 7 M2 υ2) (GnQ N (178000 + c) e0 m t w XC it σ1 σ2) := by
      intro j' w2 M1 M2 υ1 υ2 hj' hq' m1 l1 m2 l2 g1 g2 hG' hw2 hJ rm1 rm2
      obtain ⟨i1, i2, ⟨iq, ifl, iqb, W6⟩, _, i5, i6⟩ := hIt j' hj'
      have v72 : υ1.1 72 = nI (e0 + j' + 1) := hG'.1
      have u72 : υ2.1 72 = nI (e0 + j' + 1) := (EI_x50 hJ).trans v72
      have v50 : υ1.2.2 50 (e0 + j') = nI (it j') := (hG'.2 j' (by omega)).1
      have u50 : υ2.2.2 50 (e0 + j') = nI (it j') := (hG'.2 j' (by omega)).2.1
      obtain ⟨gA, lA, BA, hA, XA, gB, lB, BB, hB, XB, hX⟩ := id hJ
      refine T2_suc (fun k => e_goOn_7 k _ _ _) (fun k => e_goOn_7 k _ _ _) ?_
      rw [v72, u72, n_sub1 (by omega)]
      refine T2_chk (n_in (by omega) (by omega)) (n_in (by omega) (by omega)) ?_
      rw [n_cl (p := e0 + j') (by omega), v50, u50]
      refine T2_ob (E_step (e' := e0 + j') (fu := fu) (dp := dp) hXC ht9 (STb_fi hS1 g1) hX ⟨Rm_h2 hX.1.1 rm1, Rm_h2 hX.2.1.1 rm2⟩ (Cx_fi hC0 g1 v72) (by omega) i1 iqb W6 (fun a i z => hN j' hj' a i ((NmP_fi g1).mp z)) rfl rfl) (fun s1 s2 hs => ?_)
      obtain ⟨h12, hs⟩ := hs
      -- behind the step
      have b8 : ∀ (A1 A2 : Nat → Int32) (ω1 ω2 : MS), A1 1 = nI e0 → A2 1 = nI e0 → A1 2 = nI (it 0) → A2 2 = nI (it 0) → FI N e0 σ1 ω1 → FI N e0 σ2 ω2 → ((A1 4 = 0 ∧ A2 4 = 0 ∧ GIt e0 j' it ω1 ω2 ∧ EI t w2 XC ω1 ω2) ∨ (A1 4 = 1 ∧ A2 4 = 1 ∧ GIt e0 (j' + 1) it ω1 ω2 ∧ EI t (w2 + 1) XC ω1 ω2) ∨ (A1 4 = 0 ∧ A2 4 = 0 ∧ EZ t (178000 + c) ω1 ∧ EZ t (178000 + c) ω2 ∧ ω1.1 72 = nI (e0 + j' + 1) ∧ ω2.1 72 = nI (e0 + j' + 1))) → T2 (fun k => x_GV k (c + 2) 6 8 A1 ω1) (fun k => x_GV k (c + 2) 6 8 A2 ω2) (GnQ N (178000 + c) e0 m t w XC it σ1 σ2) := by
        intro A1 A2 ω1 ω2 p1 p1' p2 p2' k1 k2 hor
        refine T2_suc (fun k => e_goOn_8 k _ _ _) (fun k => e_goOn_8 k _ _ _) ?_
        rcases hor with ⟨y1, y2, y3, y4⟩ | ⟨y1, y2, y3, y4⟩ | ⟨y1, y2, y3, y4, y5, y6⟩
        · rw [y1, y2]
          refine T2_ite Iff.rfl (fun _ _ => ?_) (fun z _ => absurd rfl z)
          exact ih j' w2 0 _ _ ω1 ω2 (by omega) (by omega) (Or.inl rfl) p1 p1' p2 p2' y1 y2 k1 k2 y3 hw2 y4
        · rw [y1, y2]
          have z50 : ω2.2.2 50 (e0 + j') = nI (it j') := (y3.2 j' (by omega)).2.1
          have z72 : ω2.1 72 = nI (e0 + j' + 1) := (EI_x50 y4).trans y3.1
          have x72 : ω1.1 72 = nI (e0 + j' + 1) := y3.1
          refine T2_ite Iff.rfl (fun z _ => absurd z (by decide)) (fun _ _ => ?_)
          rw [x72, z72, n_sub1 (by omega)]
          refine T2_chk (n_in (by omega) (by omega)) (n_in (by omega) (by omega)) ?_
          rw [n_cl (p := e0 + j') (by omega), z50, (y3.2 j' (by omega)).1]
          refine T2_chk (n_in (by omega) (by omega)) (n_in (by omega) (by omega)) ?_
          rw [n_cl (p := it j') (by omega), (tb _ _ k1 k2 9 _ (by omega) (by omega) (by omega)).1, (tb _ _ k1 k2 9 _ (by omega) (by omega) (by omega)).2]
          by_cases last : j' + 1 = m
          · rw [i6 last]
            refine T2_ite Iff.rfl (fun _ _ => ?_) (fun z _ => absurd rfl z)
            refine T2_some ⟨k1, k2, rfl, Or.inl ⟨w2 + 1, by omega, y4, Or.inl ⟨rfl, by omega, ?_⟩⟩⟩
            rw [← last]; exact y3
          · rw [i5 (by omega)]
            refine T2_ite Iff.rfl (fun z _ => absurd z (n_neg (hIt (j' + 1) (by omega)).1)) (fun _ _ => ?_)
            have hw60 := EI_w y4
            have me := hms2 w2 hw60
            exact ih (j' + 1) (w2 + 1) 1 _ _ ω1 ω2 (by omega) (by omega) (Or.inr ⟨rfl, by omega⟩) p1 p1' p2 p2' y1 y2 k1 k2 y3 (by omega) y4
        · rw [y1, y2]
          refine T2_ite Iff.rfl (fun _ _ => ?_) (fun z _ => absurd rfl z)
          refine T2_suc (fun k => e_goOn_1 k _ _ _) (fun k => e_goOn_1 k _ _ _) ?_
          refine T2_ite ⟨fun z => absurd z (EZ_e y3), fun z => absurd z (EZ_e y4)⟩ (fun z _ => absurd z (EZ_e y3)) (fun _ _ => ?_)
          refine T2_suc (fun k => e_goOn_9 k _ _ _) (fun k => e_goOn_9 k _ _ _) ?_
          exact T2_some ⟨k1, k2, rfl, Or.inr ⟨rfl, y3, y4, ⟨e0 + j' + 1, by omega, by omega, y5⟩, ⟨e0 + j' + 1, by omega, by omega, y6⟩⟩⟩
      rcases hs with ⟨z0, q1, q2⟩ | ⟨k1, k2, k3, k4, k5, hs⟩
      · -- it is at its end
        have z0' : s2.1 = 0 := h12.symm.trans z0
        rw [z0, z0', q1, q2]
        obtain ⟨e1, e2⟩ := EI_e hJ
        refine T2_ite Iff.rfl (fun _ _ => ?_) (fun z _ => absurd rfl z)
        rw [e1, e2, v72, u72, n_sub1 (by omega)]
        refine T2_ite Iff.rfl (fun _ _ => ?_) (fun z _ => absurd rfl z)
        exact b8 _ _ (mSc υ1 72 (nI (e0 + j'))) (mSc υ2 72 (nI (e0 + j'))) m1 l1 m2 l2 (FI_tr g1 FI_72) (FI_tr g2 FI_72) (Or.inl ⟨rfl, rfl, GIt_mo hG' (by omega), EI_72 hJ v72 (by omega) (by omega)⟩)
      have gg1 : FI N e0 σ1 s1.2 := FI_tr g1 (FI_mo (by omega) k1)
      have gg2 : FI N e0 σ2 s2.2 := FI_tr g2 (FI_mo (by omega) k2)
      rcases hs with ⟨z0, hK⟩ | ⟨z0, hz1, hz2⟩
      · have z0' : s2.1 = 1 := h12.symm.trans z0
        rw [z0, z0']
        refine T2_ite Iff.rfl (fun z _ => absurd z (by decide)) (fun _ _ => ?_)
        refine b8 _ _ s1.2 s2.2 m1 l1 m2 l2 gg1 gg2 (Or.inr (Or.inl ⟨rfl, rfl, ⟨k3.trans v72, fun i hi => ?_⟩, hK⟩))
        rw [(k5 (e0 + i) (by omega)).1, (k5 (e0 + i) (by omega)).2]; exact ⟨(hG'.2 i hi).1, (hG'.2 i hi).2.1, k4.trans u72⟩
      · have z0' : s2.1 = 0 := h12.symm.trans z0
        rw [z0, z0']
        refine T2_ite Iff.rfl (fun _ _ => ?_) (fun z _ => absurd rfl z)
        refine T2_ite ⟨fun z => absurd z (EZ_e hz1), fun z => absurd z (EZ_e hz2)⟩ (fun z _ => absurd z (EZ_e hz1)) (fun _ _ => ?_)
        exact b8 _ _ s1.2 s2.2 m1 l1 m2 l2 gg1 gg2 (Or.inr (Or.inr ⟨rfl, rfl, EZ_mo hz1 (Nat.le_refl _) (by omega), EZ_mo hz2 (Nat.le_refl _) (by omega), k3.trans v72, k4.trans u72⟩))
    -- first a sweep
    obtain ⟨e1, e2⟩ := EI_e hI
    refine T2_suc (fun k => e_goOn_1 k _ _ _) (fun k => e_goOn_1 k _ _ _) ?_
    rw [e1, e2]
    refine T2_ite Iff.rfl (fun _ _ => ?_) (fun z _ => absurd rfl z)
    refine T2_ob (E_sw hXC (by omega) hI) (fun r1 r2 hr => ?_)
    obtain ⟨k1, k2, gA, lA, BA, hA, XA, gB, lB, BB, hB, XB, hX, rm1, rm2⟩ := hr
    have hJ : EI t w' XC r1.2 r2.2 := ⟨_, _, _, _, _, _, _, _, _, _, hX⟩
    have t72 : τ1.1 72 = nI (e0 + j) := hG.1
    have t72' : τ2.1 72 = nI (e0 + j) := (EI_x50 hI).trans t72
    have g1 : FI N e0 σ1 r1.2 := FI_tr f1 (FI_fe k1 t72 (by omega) (by omega))
    have g2 : FI N e0 σ2 r2.2 := FI_tr f2 (FI_fe k2 t72' (by omega) (by omega))
    have hG2 := GIt_fe hG (by omega) k1 k2
    have r72 : r1.2.1 72 = nI (e0 + j) := hG2.1
    have r72' : r2.2.1 72 = nI (e0 + j) := (EI_x50 hJ).trans r72
    have mm : ∀ w2, w' ≤ w2 → ms w2 ≤ ms w' := fun w2 h => hms1 w' w2 h
    rw [n4, o4]
    rcases hx with hx0 | ⟨hx1, hjm⟩
    · -- the last one goes on, or all are at their end
      subst hx0
      refine T2_ite Iff.rfl (fun _ _ => ?_) (fun z _ => absurd rfl z)
      refine T2_suc (fun k => e_goOn_6 k _ _ _) (fun k => e_goOn_6 k _ _ _) ?_
      rw [r72, r72', n1, o1]
      refine T2_ite Iff.rfl (fun z _ => ?_) (fun z _ => ?_)
      · have z := (n_eq (by omega) (by omega)).mp z
        have hj0 : j = 0 := by omega
        subst hj0
        exact T2_some ⟨g1, g2, rfl, Or.inl ⟨w', hw', hJ, Or.inr ⟨rfl, r72, Rm_HS hX.1.1 rm1, Rm_HS hX.2.1.1 rm2⟩⟩⟩
      · have hj0 : j ≠ 0 := fun y => z (by rw [y]; rfl)
        obtain ⟨j', rfl⟩ : ∃ j', j = j' + 1 := ⟨j - 1, by omega⟩
        exact b7 j' w' _ _ r1.2 r2.2 (by omega) (by omega) n1 o1 n2 o2 g1 g2 hG2 hw' hJ (Rm_HS hX.1.1 (by omega)) (Rm_HS hX.2.1.1 (by omega))
    · -- the next one is opened
      subst hx1
      obtain ⟨i1, i2, _, ⟨ifl, W7⟩, i5, i6⟩ := hIt j hjm
      have b4 : ∀ (M1 M2 : Nat → Int32), M1 1 = nI e0 → M2 1 = nI e0 → M1 2 = nI (it 0) → M2 2 = nI (it 0) → M1 100 = nI (it j) → M2 100 = nI (it j) → T2 (fun k => x_GV k (c + 2) 6 3 M1 r1.2) (fun k => x_GV k (c + 2) 6 3 M2 r2.2) (GnQ N (178000 + c) e0 m t w XC it σ1 σ2) := by
        intro M1 M2 m1 l1 m2 l2 m100 l100
        refine T2_suc (fun k => e_goOn_3 k _ _ _) (fun k => e_goOn_3 k _ _ _) ?_
        rw [m100, l100]
        refine T2_ite Iff.rfl (fun z _ => absurd z (n_neg i1)) (fun _ _ => ?_)
        refine T2_suc (fun k => e_goOn_4 k _ _ _) (fun k => e_goOn_4 k _ _ _) ?_
        refine T2_od ?_
        have pc1 : PC T FN (O - 1) 14 (K - j) lc c t w' XC r1.2 := PC_fi hP h72 (by omega) g1 r72 hO (by omega) (by omega) (EI_w hJ) (by omega) (by omega) (by omega) (by omega)
        have pc2 : PC T FN (O - 1) 14 (K - j) lc c t w' XC' r1.2 := PC_fi hP h72 (by omega) g1 r72 hO (by omega) (by omega) (EI_w hJ) (by omega) (by omega) (by omega) (by omega)
        have hJ' : EI t w' XC' r1.2 r2.2 := EIx_up hX (by omega) (by omega) (by omega)
        refine T2_ob (T2_and (E_open (e' := e0 + j) (n := it j) hE i1 W7 pc1 hJ r72 (by omega) rfl rfl) (E_open (e' := e0 + j) (n := it j) hE i1 W7 pc2 hJ' r72 (by omega) rfl rfl)) (fun s1 s2 hs => ?_)
        obtain ⟨⟨p1, p2, hs⟩, _, _, hs'⟩ := hs
        have gg1 : FI N e0 σ1 s1.2 := FI_tr g1 (FI_w (FI_mo (by omega) p1))
        have gg2 : FI N e0 σ2 s2.2 := FI_tr g2 (FI_w (FI_mo (by omega) p2))
        rcases hs with ⟨w2, hw2, hK, s72⟩ | ⟨z1, z2, z3, z4⟩
        case inr =>
          refine T2_ite ⟨fun z => absurd z (EZ_le z1), fun z => absurd z (EZ_le z2)⟩ (fun z _ => absurd z (EZ_le z1)) (fun _ _ => ?_)
          exact T2_some ⟨gg1, gg2, rfl, Or.inr ⟨rfl, z1, z2, ⟨e0 + j, by omega, by omega, z3⟩, ⟨e0 + j, by omega, by omega, z4⟩⟩⟩
        obtain ⟨q1, q2⟩ := EI_e hK
        rcases hs' with ⟨w3, _, hK', _⟩ | ⟨z1, _⟩
        case inr => exact absurd q1 (EZ_e z1)
        obtain ⟨rm1', rm2'⟩ := EI_rm hK'
        rw [q1, q2]
        refine T2_ite Iff.rfl (fun _ _ => ?_) (fun z _ => absurd (by decide : (0 : Int32) ≤ 0) z)
        refine T2_suc (fun k => e_goOn_5 k _ _ _) (fun k => e_goOn_5 k _ _ _) ?_
        have s72' : s2.2.1 72 = nI (e0 + j + 1) := (EI_x50 hK).trans s72
        rw [s72, s72', n_sub1 (by omega)]
        refine T2_chk (n_in (by omega) (by omega)) (n_in (by omega) (by omega)) ?_
        rw [n_cl (p := e0 + j) (by omega)]
        show T2 (fun k => x_GV k (c + 2) 6 7 (upd M1 5 (nI (it j))) (mAr s1.2 50 (e0 + j) (nI (it j)))) (fun k => x_GV k (c + 2) 6 7 (upd M2 5 (nI (it j))) (mAr s2.2 50 (e0 + j) (nI (it j)))) _
        have := mm w2 hw2
        refine b7 j w2 _ _ _ _ hjm (by omega) m1 l1 m2 l2 (FI_tr gg1 (FI_50 (by omega))) (FI_tr gg2 (FI_50 (by omega))) ⟨s72, fun i hi => ?_⟩ (by omega) (EI_50 hK) (Rm_c rfl rfl (Rm_mo (by omega) rm1')) (Rm_c rfl rfl (Rm_mo (by omega) rm2'))
        by_cases ei : i = j
        · rw [ei, mAr_s, upd_same, mAr_s, upd_same]; exact ⟨rfl, rfl, s72'⟩
        · rw [mAr_s, upd_other (by omega), mAr_s, upd_other (by omega), p1.2.1 50 (e0 + i) (by unfold AlR; omega) (by unfold Zn; omega) (by omega), p2.2.1 50 (e0 + i) (by unfold AlR; omega) (by unfold Zn; omega) (by omega)]
          exact ⟨(hG2.2 i (by omega)).1, (hG2.2 i (by omega)).2.1, s72'⟩
      refine T2_ite Iff.rfl (fun z _ => absurd z (by decide)) (fun _ _ => ?_)
      rw [r72, r72', n1, o1]
      refine T2_ite Iff.rfl (fun z _ => ?_) (fun z _ => ?_)
      · have z := (n_eq (by omega) (by omega)).mp z
        have hj0 : j = 0 := by omega
        subst hj0
        exact b4 _ _ n1 o1 n2 o2 n2 o2
      · have hj0 : j ≠ 0 := fun y => z (by rw [y]; rfl)
        obtain ⟨j', rfl⟩ : ∃ j', j = j' + 1 := ⟨j - 1, by omega⟩
        have y50 : r1.2.2.2 50 (e0 + j') = nI (it j') := (hG2.2 j' (by omega)).1
        have y50' : r2.2.2.2 50 (e0 + j') = nI (it j') := (hG2.2 j' (by omega)).2.1
        have i9 := (hIt j' (by omega)).2.2.2.2.1 (by omega)
        have ib := (hIt j' (by omega)).1
        refine T2_suc (fun k => e_goOn_2 k _ _ _) (fun k => e_goOn_2 k _ _ _) ?_
        rw [r72, r72', show e0 + (j' + 1) = e0 + j' + 1 from rfl, n_sub1 (by omega)]
        refine T2_chk (n_in (by omega) (by omega)) (n_in (by omega) (by omega)) ?_
        rw [n_cl (p := e0 + j') (by omega), y50, y50']
        refine T2_chk (n_in (by omega) (by omega)) (n_in (by omega) (by omega)) ?_
        rw [n_cl (p := it j') (by omega), (tb _ _ g1 g2 9 _ (by omega) (by omega) (by omega)).1, (tb _ _ g1 g2 9 _ (by omega) (by omega) (by omega)).2, i9]
        exact b4 _ _ n1 o1 n2 o2 rfl rfl
  refine T2_suc (fun k => e_goOn_0 k _ _ _) (fun k => e_goOn_0 k _ _ _) ?_
  exact b1 (ms w + x * (m + 2) + j0 + 1) j0 w x _ _ τ1 τ2 (by omega) hj0 (by omega) d1 d2 c1 c2 a1 a2 f1 f2 hG (Nat.le_refl _) hI
end EGM
end JnS220
section JnS221
/-! Evaluation on both sides (reference): names of iterators are cleared. -/
section ECL
variable {T : Nat → Nat → Int32} {FN : Nat → Nat → Prop} {O r K d t u w XC : Nat} {lc : Nat → Prop} {σ σ1 σ2 τ τ1 τ2 ρ : MS} {m e fu dp : Nat} {it : Nat → Nat}
/-- places of the names of all these iterators -/
def NmI (T : Nat → Nat → Int32) (σ : MS) (it : Nat → Nat) (i0 m a i : Nat) : Prop := ∃ j, i0 ≤ j ∧ j < m ∧ NmP T σ (T 6 (it j)) a i
theorem NmI_NU (hC : Cx lc fu dp e σ) (hIt : Its T FN O m K lc it) {a i : Nat} (h : NmI T σ it 0 m a i) : NU σ a i := by
  obtain ⟨j, _, hj, hn⟩ := h
  obtain ⟨_, _, ⟨q, f, _, W6⟩, _⟩ := hIt j hj
  have go : ∀ (q f : Nat) (x : Int32), WN T FN f 6 O q (K - j) lc x → NmP T σ x a i → NU σ a i := by
    intro q
    induction q with
    | zero =>
      intro f x hW hn
      rcases WN_6 hW with ⟨_, z⟩ | ⟨m', n', s', f', eq, _⟩
      · rw [z] at hn; exact absurd hn NmP_0
      · omega
    | succ q ih =>
      intro f x hW hn
      rcases WN_6 hW with ⟨z, _⟩ | ⟨m', n', s', f', eq, xn, hn', x6, hs, x5, W9⟩
      · omega
      · rcases (NmP_1 hn' xn).mp hn with z | z
        · exact NPl_NU hC x6 hs x5.2 z
        · exact ih f' _ (by rw [show q = m' by omega]; exact W9) z
  exact go q f _ W6 hn
/-- one side, with an error -/
theorem z_clear {a b : Nat} (hS : STb T FN σ) (hC : Cx lc fu dp e σ) (hm : 1 ≤ m) (hIt : Its T FN O m K lc it) (hZ : EZ a b σ) {L : Nat → Int32} (d1 : L 1 = nI (it 0)) : Tm (fun k => x_clear k 0 L σ) (fun r => FE σ r.2 ∧ EZ a b r.2 ∧ ∀ p s, NmI T σ it 0 m p s → r.2.2.2 p s = 0) := by
  have tb : ∀ (τ : MS), FE σ τ → ∀ a i, 4 ≤ a → a ≤ 9 → (1 ≤ i ∧ i < LNo T % 70001) → τ.2.2 a i = T a i := fun τ f a i h1 h2 h3 => (STb_fe hS f).1 a i h1 (by omega) ⟨fun _ => h3, fun z => by omega⟩
  have b1 : ∀ (q i : Nat) (N : Nat → Int32) (τ : MS), q + i = m → (i < m → N 2 = nI (it i)) → (i = m → N 2 = -1) → FE σ τ → EZ a b τ → (∀ p s, NmI T σ it 0 m p s → τ.2.2 p s = 0 ∨ NmI T σ it i m p s) → Tm (fun k => x_clear k 1 N τ) (fun r => FE σ r.2 ∧ EZ a b r.2 ∧ ∀ p s, NmI T σ it 0 m p s → r.2.2.2 p s = 0) := by
    intro q
    induction q with
    | zero =>
      intro i N τ hi h1 h2 f hz zz
      refine Tm_suc (fun k => by rw [x_clear]) ?_
      rw [h2 (by omega)]
      refine Tm_ite (fun _ => ?_) (fun z => absurd rfl z)
      refine Tm_suc (fun k => by rw [x_clear]) ?_
      refine Tm_some ⟨f, hz, fun p s y => ?_⟩
      rcases zz p s y with y | ⟨j, j1, j2, _⟩
      · exact y
      · omega
    | succ q ih =>
      intro i N τ hi h1 h2 f hz zz
      obtain ⟨i1, i2, ⟨iq, ifl, iqb, W6⟩, _, i5, i6⟩ := hIt i (by omega)
      have n2 := h1 (by omega)
      have b3 : ∀ (M : Nat → Int32) (υ : MS), M 2 = nI (it i) → FE σ υ → EZ a b υ → (∀ p s, NmI T σ it 0 m p s → υ.2.2 p s = 0 ∨ NmI T σ it (i + 1) m p s) → Tm (fun k => x_clear k 3 M υ) (fun r => FE σ r.2 ∧ EZ a b r.2 ∧ ∀ p s, NmI T σ it 0 m p s → r.2.2.2 p s = 0) := by
        intro M υ m2 g z zz
        refine Tm_suc (fun k => by rw [x_clear]) ?_
        rw [m2]
        refine Tm_chk (n_in (by omega) (by omega)) ?_
        rw [n_cl (p := it i) (by omega), tb υ g 9 _ (by omega) (by omega) (by omega)]
        exact ih (i + 1) _ υ (by omega) (fun y => i5 y) (fun y => i6 y) g z zz
      have b2 : ∀ (f m' : Nat) (x : Int32) (M : Nat → Int32) (υ : MS), WN T FN f 6 O m' (K - i) lc x → M 2 = nI (it i) → M 3 = x → FE σ υ → EZ a b υ → (∀ p s, NmI T σ it 0 m p s → υ.2.2 p s = 0 ∨ NmP T σ x p s ∨ NmI T σ it (i + 1) m p s) → Tm (fun k => x_clear k 2 M υ) (fun r => FE σ r.2 ∧ EZ a b r.2 ∧ ∀ p s, NmI T σ it 0 m p s → r.2.2.2 p s = 0) := by
        intro f
        induction f with
        | zero => intro m' x M υ hW; exact hW.elim
        | succ f ihf =>
          intro m' x M υ hW m2 m3 g z zz
          refine Tm_suc (fun k => by rw [x_clear]) ?_
          rw [m3]
          rcases WN_6 hW with ⟨_, y⟩ | ⟨m2', n', s', f', em, xn', hn', x6', hs', x5', W9'⟩
          · rw [y]
            refine Tm_ite (fun _ => b3 _ υ m2 g z (fun p s hp => ?_)) (fun y => absurd rfl y)
            rcases zz p s hp with q1 | q1 | q1
            · exact Or.inl q1
            · rw [y] at q1; exact absurd q1 NmP_0
            · exact Or.inr q1
          rw [xn']
          refine Tm_ite (fun y => absurd y (n_neg hn')) (fun _ => ?_)
          have hC' := Cx_fe hC g
          obtain ⟨pa, pi, pv, pd, pb⟩ := s_bindOne (STb_fe hS g) hC' hn' x6' hs' x5'.1
          have pn : ∀ a2 i2, NPl T υ n' a2 i2 ↔ a2 = pa ∧ i2 = pi := fun a2 i2 => NPl_1 x6' hs' hC'.1 hC'.2.1 pd
          refine Tm_ob (pb _ rfl) (fun u hu => ?_)
          rw [hu]
          refine Tm_chk (n_in (by omega) (by omega)) ?_
          have g' := FE_tr g (FE_b0 (σ := υ) pv (NPl_NU hC' x6' hs' x5'.2 ((pn pa pi).mpr ⟨rfl, rfl⟩)))
          rw [n_cl (p := n') (by omega)]
          show Tm (fun k => x_clear k 2 (upd M 3 ((mAr υ pa pi 0).2.2 9 n')) (mAr υ pa pi 0)) _
          rw [tb _ g' 9 _ (by omega) (by omega) (by omega)]
          have W9f : WN T FN f 6 O m2' (K - i) lc (T 9 n') := by
            unfold WN at hW
            rcases hW with ⟨y, _⟩ | ⟨y, _⟩ | ⟨y, _⟩ | ⟨y, _⟩ | ⟨y, _⟩ | ⟨y, _⟩ | ⟨_, hor⟩
            case inl => exact absurd y (by decide)
            case inr.inl => exact absurd y (by decide)
            case inr.inr.inl => exact absurd y (by decide)
            case inr.inr.inr.inl => exact absurd y (by decide)
            case inr.inr.inr.inr.inl => exact absurd y (by decide)
            case inr.inr.inr.inr.inr.inl => exact absurd y (by decide)
            rcases hor with ⟨_, y⟩ | ⟨m3', n3, s3, em3, xn3, hn3, _, _, _, w9⟩
            · rw [xn'] at y; exact absurd y (n_neg hn')
            · have e3 : n3 = n' := (n_eq (by omega) (by omega)).mp (xn3.symm.trans xn')
              subst e3
              rw [show m2' = m3' by omega]; exact w9
          refine ihf m2' (T 9 n') _ _ W9f m2 rfl g' (EZ_bd0 z pv) (fun p s hp => ?_)
          by_cases c : p = pa ∧ s = pi
          · rw [c.1, c.2]; exact Or.inl (by rw [mAr_s, upd_same])
          · have ot : (mAr υ pa pi 0).2.2 p s = υ.2.2 p s := by
              by_cases e : p = pa
              · subst e; rw [mAr_s, upd_other (fun y => c ⟨rfl, y⟩)]
              · rw [mAr_o e]
            rw [ot]
            rcases zz p s hp with q1 | q1 | q1
            · exact Or.inl q1
            · rcases (NmP_1 hn' xn').mp q1 with q1 | q1
              · exact absurd ((pn p s).mp ((NPl_c (g.1 69 (by unfold AlS; omega) (by decide) (by decide) (by decide)) (g.1 67 (by unfold AlS; omega) (by decide) (by decide) (by decide)) ((FEn_b g).2.2.1 1 (by unfold Zn; omega))).mpr q1)) c
              · exact Or.inr (Or.inl q1)
            · exact Or.inr (Or.inr q1)
      refine Tm_suc (fun k => by rw [x_clear]) ?_
      rw [n2]
      refine Tm_ite (fun y => absurd y (n_neg i1)) (fun _ => ?_)
      refine Tm_chk (n_in (by omega) (by omega)) ?_
      rw [n_cl (p := it i) (by omega), tb τ f 6 _ (by omega) (by omega) (by omega)]
      refine b2 ifl iq (T 6 (it i)) _ τ W6 n2 rfl f hz (fun p s hp => ?_)
      rcases zz p s hp with q1 | ⟨j, j1, j2, q1⟩
      · exact Or.inl q1
      · by_cases c : j = i
        · subst c; exact Or.inr (Or.inl q1)
        · exact Or.inr (Or.inr ⟨j, by omega, j2, q1⟩)
  refine Tm_suc (fun k => by rw [x_clear]) ?_
  exact b1 m 0 _ σ (by omega) (fun _ => d1) (fun y => by omega) FE_rf hZ (fun p s hp => Or.inr hp)
/-- both sides -/
theorem E_clear (hS : STb T FN σ1) (hI : EI t w XC σ1 σ2) (hC : Cx lc fu dp e σ1) (hm : 1 ≤ m) (hIt : Its T FN O m K lc it) {L1 L2 : Nat → Int32} (d1 : L1 1 = nI (it 0)) (d2 : L2 1 = nI (it 0)) : T2 (fun k => x_clear k 0 L1 σ1) (fun k => x_clear k 0 L2 σ2) (fun r1 r2 => FE σ1 r1.2 ∧ FE σ2 r2.2 ∧ r1.2.1 = σ1.1 ∧ r2.2.1 = σ2.1 ∧ EI t w XC r1.2 r2.2 ∧ ∀ p s, NmI T σ1 it 0 m p s → r1.2.2.2 p s = 0 ∧ r2.2.2.2 p s = 0) := by
  have hS2 := EI_ST hI hS
  have tb : ∀ (τ1 τ2 : MS), FE σ1 τ1 → FE σ2 τ2 → ∀ a i, 4 ≤ a → a ≤ 9 → (1 ≤ i ∧ i < LNo T % 70001) → τ1.2.2 a i = T a i ∧ τ2.2.2 a i = T a i := fun τ1 τ2 f1 f2 a i h1 h2 h3 => ⟨(STb_fe hS f1).1 a i h1 (by omega) ⟨fun _ => h3, fun z => by omega⟩, (STb_fe hS2 f2).1 a i h1 (by omega) ⟨fun _ => h3, fun z => by omega⟩⟩
  have b1 : ∀ (q i : Nat) (N1 N2 : Nat → Int32) (τ1 τ2 : MS), q + i = m → (i < m → N1 2 = nI (it i) ∧ N2 2 = nI (it i)) → (i = m → N1 2 = -1 ∧ N2 2 = -1) → FE σ1 τ1 → FE σ2 τ2 → τ1.1 = σ1.1 → τ2.1 = σ2.1 → EI t w XC τ1 τ2 → (∀ p s, NmI T σ1 it 0 m p s → (τ1.2.2 p s = 0 ∧ τ2.2.2 p s = 0) ∨ NmI T σ1 it i m p s) → T2 (fun k => x_clear k 1 N1 τ1) (fun k => x_clear k 1 N2 τ2) (fun r1 r2 => FE σ1 r1.2 ∧ FE σ2 r2.2 ∧ r1.2.1 = σ1.1 ∧ r2.2.1 = σ2.1 ∧ EI t w XC r1.2 r2.2 ∧ ∀ p s, NmI T σ1 it 0 m p s → r1.2.2.2 p s = 0 ∧ r2.2.2.2 p s = 0) := by
    intro q
    induction q with
    | zero =>
      intro i N1 N2 τ1 τ2 hi h1 h2 f1 f2 s1 s2 hJ zz
      refine T2_suc (fun k => by rw [x_clear]) (fun k => by rw [x_clear]) ?_
      rw [(h2 (by omega)).1, (h2 (by omega)).2]
      refine T2_ite Iff.rfl (fun _ _ => ?_) (fun z _ => absurd rfl z)
      refine T2_suc (fun k => by rw [x_clear]) (fun k => by rw [x_clear]) ?_
      refine T2_some ⟨f1, f2, s1, s2, hJ, fun p s y => ?_⟩
      rcases zz p s y with y | ⟨j, j1, j2, _⟩
      · exact y
      · omega
    | succ q ih =>
      intro i N1 N2 τ1 τ2 hi h1 h2 f1 f2 s1 s2 hJ zz
      obtain ⟨i1, i2, ⟨iq, ifl, iqb, W6⟩, _, i5, i6⟩ := hIt i (by omega)
      obtain ⟨n2, o2⟩ := h1 (by omega)
      have b3 : ∀ (M1 M2 : Nat → Int32) (υ1 υ2 : MS), M1 2 = nI (it i) → M2 2 = nI (it i) → FE σ1 υ1 → FE σ2 υ2 → υ1.1 = σ1.1 → υ2.1 = σ2.1 → EI t w XC υ1 υ2 → (∀ p s, NmI T σ1 it 0 m p s → (υ1.2.2 p s = 0 ∧ υ2.2.2 p s = 0) ∨ NmI T σ1 it (i + 1) m p s) → T2 (fun k => x_clear k 3 M1 υ1) (fun k => x_clear k 3 M2 υ2) (fun r1 r2 => FE σ1 r1.2 ∧ FE σ2 r2.2 ∧ r1.2.1 = σ1.1 ∧ r2.2.1 = σ2.1 ∧ EI t w XC r1.2 r2.2 ∧ ∀ p s, NmI T σ1 it 0 m p s → r1.2.2.2 p s = 0 ∧ r2.2.2.2 p s = 0) := by
        intro M1 M2 υ1 υ2 m2 l2 g1 g2 c1 c2 hK zz
        refine T2_suc (fun k => by rw [x_clear]) (fun k => by rw [x_clear]) ?_
        rw [m2, l2]
        refine T2_chk (n_in (by omega) (by omega)) (n_in (by omega) (by omega)) ?_
        rw [n_cl (p := it i) (by omega), (tb _ _ g1 g2 9 _ (by omega) (by omega) (by omega)).1, (tb _ _ g1 g2 9 _ (by omega) (by omega) (by omega)).2]
        exact ih (i + 1) _ _ υ1 υ2 (by omega) (fun y => ⟨i5 y, i5 y⟩) (fun y => ⟨i6 y, i6 y⟩) g1 g2 c1 c2 hK zz
      have b2 : ∀ (q f : Nat) (x : Int32) (M1 M2 : Nat → Int32) (υ1 υ2 : MS), WN T FN f 6 O q (K - i) lc x → M1 2 = nI (it i) → M2 2 = nI (it i) → M1 3 = x → M2 3 = x → FE σ1 υ1 → FE σ2 υ2 → υ1.1 = σ1.1 → υ2.1 = σ2.1 → EI t w XC υ1 υ2 → (∀ p s, NmI T σ1 it 0 m p s → (υ1.2.2 p s = 0 ∧ υ2.2.2 p s = 0) ∨ NmP T σ1 x p s ∨ NmI T σ1 it (i + 1) m p s) → T2 (fun k => x_clear k 2 M1 υ1) (fun k => x_clear k 2 M2 υ2) (fun r1 r2 => FE σ1 r1.2 ∧ FE σ2 r2.2 ∧ r1.2.1 = σ1.1 ∧ r2.2.1 = σ2.1 ∧ EI t w XC r1.2 r2.2 ∧ ∀ p s, NmI T σ1 it 0 m p s → r1.2.2.2 p s = 0 ∧ r2.2.2.2 p s = 0) := by
        intro q
        induction q with
        | zero =>
          intro f x M1 M2 υ1 υ2 hW m2 l2 m3 l3 g1 g2 c1 c2 hK zz
          refine T2_suc (fun k => by rw [x_clear]) (fun k => by rw [x_clear]) ?_
          rw [m3, l3]
          rcases WN_6 hW with ⟨_, y⟩ | ⟨m2', n', s', f', em, _⟩
          · rw [y]
            refine T2_ite Iff.rfl (fun _ _ => b3 _ _ υ1 υ2 m2 l2 g1 g2 c1 c2 hK (fun p s hp => ?_)) (fun y _ => absurd rfl y)
            rcases zz p s hp with q1 | q1 | q1
            · exact Or.inl q1
            · rw [y] at q1; exact absurd q1 NmP_0
            · exact Or.inr q1
          · omega
        | succ q ihq =>
          intro f x M1 M2 υ1 υ2 hW m2 l2 m3 l3 g1 g2 c1 c2 hK zz
          refine T2_suc (fun k => by rw [x_clear]) (fun k => by rw [x_clear]) ?_
          rw [m3, l3]
          rcases WN_6 hW with ⟨y, _⟩ | ⟨m2', n', s', f', em, xn', hn', x6', hs', x5', W9'⟩
          · omega
          rw [xn']
          refine T2_ite Iff.rfl (fun y _ => absurd y (n_neg hn')) (fun _ _ => ?_)
          have hC' := Cx_fe hC g1
          have hC2' : Cx lc fu dp e υ2 ∧ (∀ a2 i2, NPl T υ1 n' a2 i2 → NPl T υ2 n' a2 i2) := by
            obtain ⟨_, _, _, _, _, _, _, _, _, _, hX⟩ := id hK
            have hR := hX.2.2.1
            exact ⟨Cx_ra hR hC', fun a2 i2 z => (NPl_c (hR.2.2.1 69 (by unfold AlS; omega)).symm (hR.2.2.1 67 (by unfold AlS; omega)).symm (hR.2.1 30 1 (by unfold AlR; omega) (by unfold Zn; omega) (InA_4 (by omega))).symm).mpr z⟩
          obtain ⟨pa, pi, pv, pn, pb⟩ := E_bnd (STb_fe hS g1) hK hC' hn' x6' hs' x5'.1
          refine T2_ob (pb _ _ rfl rfl) (fun u1 u2 hu => ?_)
          rw [hu.1, hu.2]
          refine T2_chk (n_in (by omega) (by omega)) (n_in (by omega) (by omega)) ?_
          have pnn := (pn pa pi).mpr ⟨rfl, rfl⟩
          have g1' := FE_tr g1 (FE_b0 (σ := υ1) pv (NPl_NU hC' x6' hs' x5'.2 pnn))
          have g2' := FE_tr g2 (FE_b0 (σ := υ2) pv (NPl_NU hC2'.1 x6' hs' x5'.2 (hC2'.2 _ _ pnn)))
          rw [n_cl (p := n') (by omega)]
          show T2 (fun k => x_clear k 2 (upd M1 3 ((mAr υ1 pa pi 0).2.2 9 n')) (mAr υ1 pa pi 0)) (fun k => x_clear k 2 (upd M2 3 ((mAr υ2 pa pi 0).2.2 9 n')) (mAr υ2 pa pi 0)) _
          rw [(tb _ _ g1' g2' 9 _ (by omega) (by omega) (by omega)).1, (tb _ _ g1' g2' 9 _ (by omega) (by omega) (by omega)).2]
          refine ihq f' (T 9 n') _ _ _ _ (by rw [show q = m2' by omega]; exact W9') m2 l2 rfl rfl g1' g2' c1 c2 (EI_bd0 hK pv) (fun p s hp => ?_)
          by_cases c : p = pa ∧ s = pi
          · rw [c.1, c.2]; exact Or.inl ⟨by rw [mAr_s, upd_same], by rw [mAr_s, upd_same]⟩
          · have ot : ∀ υ : MS, (mAr υ pa pi 0).2.2 p s = υ.2.2 p s := fun υ => by
              by_cases e : p = pa
              · subst e; rw [mAr_s, upd_other (fun y => c ⟨rfl, y⟩)]
              · rw [mAr_o e]
            rw [ot, ot]
            rcases zz p s hp with q1 | q1 | q1
            · exact Or.inl q1
            · rcases (NmP_1 hn' xn').mp q1 with q1 | q1
              · exact absurd ((pn p s).mp ((NPl_c (g1.1 69 (by unfold AlS; omega) (by decide) (by decide) (by decide)) (g1.1 67 (by unfold AlS; omega) (by decide) (by decide) (by decide)) ((FEn_b g1).2.2.1 1 (by unfold Zn; omega))).mpr q1)) c
              · exact Or.inr (Or.inl q1)
            · exact Or.inr (Or.inr q1)
      refine T2_suc (fun k => by rw [x_clear]) (fun k => by rw [x_clear]) ?_
      rw [n2, o2]
      refine T2_ite Iff.rfl (fun y _ => absurd y (n_neg i1)) (fun _ _ => ?_)
      refine T2_chk (n_in (by omega) (by omega)) (n_in (by omega) (by omega)) ?_
      rw [n_cl (p := it i) (by omega), (tb _ _ f1 f2 6 _ (by omega) (by omega) (by omega)).1, (tb _ _ f1 f2 6 _ (by omega) (by omega) (by omega)).2]
      refine b2 iq ifl (T 6 (it i)) _ _ τ1 τ2 W6 n2 o2 rfl rfl f1 f2 s1 s2 hJ (fun p s hp => ?_)
      rcases zz p s hp with q1 | ⟨j, j1, j2, q1⟩
      · exact Or.inl q1
      · by_cases c : j = i
        · subst c; exact Or.inr (Or.inl q1)
        · exact Or.inr (Or.inr ⟨j, by omega, j2, q1⟩)
  refine T2_suc (fun k => by rw [x_clear]) (fun k => by rw [x_clear]) ?_
  exact b1 m 0 _ _ σ1 σ2 (by omega) (fun _ => ⟨d1, d2⟩) (fun y => by omega) FE_rf FE_rf rfl rfl hI (fun p s hp => Or.inr hp)
end ECL
end JnS221
section JnS222
/-! Evaluation on both sides (reference): formers. -/
/-- locals of a former -/
def FoL (n t e0 : Nat) (N : Nat → Int32) : Prop := N 1 = nI n ∧ N 2 = nI t ∧ N 3 = nI e0
/-- what a former, a quantifier stands on -/
def FoC (T : Nat → Nat → Int32) (FN : Nat → Nat → Prop) (O K : Nat) (lc : Nat → Prop) (n e0 m fu dp : Nat) (it : Nat → Nat) (σ1 σ2 : MS) : Prop := (1 ≤ n ∧ n < LNo T % 70001) ∧ STb T FN σ1 ∧ STb T FN σ2 ∧ Cx lc fu dp e0 σ1 ∧ (Cx lc fu dp e0 σ2 ∧ σ2.1 69 = σ1.1 69 ∧ σ2.2.2 30 1 = σ1.2.2 30 1) ∧ (e0 + K ≤ 1260 ∧ m ≤ K) ∧ 1 ≤ m ∧ Its T FN O m K lc it ∧ T 6 n = nI (it 0)
section EFO
variable {T : Nat → Nat → Int32} {FN : Nat → Nat → Prop} {O r K d t u w XC : Nat} {lc : Nat → Prop} {σ σ1 σ2 τ τ1 τ2 ρ : MS} {n c m e0 fu dp : Nat} {it : Nat → Nat} {N : Nat → Nat → Prop}
theorem PC_t60 (h : PC T FN O r K lc d t w XC σ) : t + (60000 - w) ≤ 174000 := by
  obtain ⟨_, _, _, _, _, _, hw, fu, dp, e, cc, _, ht, _⟩ := h
  have := cc.2.2.2.1
  omega
theorem FoC_of {f0 : Nat} (hn : (1 ≤ n ∧ n < LNo T % 70001)) (hm : 1 ≤ m) (hmK : m ≤ K) (W6 : WN T FN f0 4 O m K lc (T 6 n)) {O' : Nat} (hP : PC T FN O' r K lc d t w XC σ1) (hI : EI t w XC σ1 σ2) : ∃ e0 fu dp it, FoC T FN O K lc n e0 m fu dp it σ1 σ2 := by
  rcases WN_it f0 m K _ W6 with ⟨z, _⟩ | ⟨_, it, x6, hIt⟩
  · omega
  obtain ⟨hS1, _, _, _, _, _, _, fu, dp, e, cc, ce, _⟩ := hP
  have := cc.2.1
  have hS2 := EI_ST hI hS1
  obtain ⟨_, _, _, _, _, _, _, _, _, _, hX⟩ := hI
  exact ⟨e, fu, dp, it, hn, hS1, hS2, cc, ⟨Cx_ra hX.2.2.1 cc, (hX.2.2.1.2.2.1 69 (by unfold AlS; omega)).symm, (hX.2.2.1.2.1 30 1 (by unfold AlR; omega) (by unfold Zn; omega) (InA_4 (by omega))).symm⟩, ⟨by omega, hmK⟩, hm, hIt, x6⟩
theorem FoC_tb (hF : FoC T FN O K lc n e0 m fu dp it σ1 σ2) (f1 : FI N e0 σ1 τ1) (f2 : FI N e0 σ2 τ2) {a i : Nat} (h1 : 4 ≤ a) (h2 : a ≤ 9) (h3 : (1 ≤ i ∧ i < LNo T % 70001)) : τ1.2.2 a i = T a i ∧ τ2.2.2 a i = T a i := ⟨(STb_fi hF.2.1 f1).1 a _ h1 (by omega) ⟨fun _ => h3, fun z => by omega⟩, (STb_fi hF.2.2.1 f2).1 a _ h1 (by omega) ⟨fun _ => h3, fun z => by omega⟩⟩
/-- iterators are left: back to the frame of an evaluation -/
theorem FE_back (hC : Cx lc fu dp e0 σ) (h4 : e0 ≤ 4000) (f : FI N e0 σ τ) (k : FE (mSc τ 72 (nI e0)) ρ) (hz : ∀ a i, N a i → ρ.2.2 a i = 0 ∧ NU σ a i) : FE σ ρ := by
  have p72 : (mSc τ 72 (nI e0)).1 72 = nI e0 := rfl
  have h72 := hC.2.2.2.2.1
  refine FE_fi (FI_tr (FI_tr f FI_72) (FI_fe k p72 h4 (Nat.le_refl _))) hz h72 h4 ?_
  rw [k.1 72 (by unfold AlS; omega) (by decide) (by decide) (by decide), p72, h72]
theorem NmI_fi {a i : Nat} (f : FI N e0 σ ρ) : NmI T (mSc ρ 72 (nI e0)) it 0 m a i ↔ NmI T σ it 0 m a i := by
  constructor
  · rintro ⟨j, j1, j2, h⟩; exact ⟨j, j1, j2, (NmP_fi (FI_tr f (FI_72 (x := nI e0)))).mp h⟩
  · rintro ⟨j, j1, j2, h⟩; exact ⟨j, j1, j2, (NmP_fi (FI_tr f (FI_72 (x := nI e0)))).mpr h⟩
theorem NmI_2 (hF : FoC T FN O K lc n e0 m fu dp it σ1 σ2) {a i : Nat} : NmI T σ2 it 0 m a i ↔ NmI T σ1 it 0 m a i := by
  obtain ⟨hn, hS1, hS2, hC1, ⟨hC2, h69, h30⟩, hK, hm, hIt, x6⟩ := hF
  have h67 : σ2.1 67 = σ1.1 67 := hC2.1.trans hC1.1.symm
  constructor
  · rintro ⟨j, j1, j2, h⟩; exact ⟨j, j1, j2, (NmP_c h69 h67 h30).mp h⟩
  · rintro ⟨j, j1, j2, h⟩; exact ⟨j, j1, j2, (NmP_c h69 h67 h30).mpr h⟩
/-- the iterators are closed, their names cleared: both with an error -/
theorem z_close {b : Nat} (hF : FoC T FN O K lc n e0 m fu dp it σ1 σ2) (f1 : FI (NmI T σ1 it 0 m) e0 σ1 τ1) (f2 : FI (NmI T σ1 it 0 m) e0 σ2 τ2) (z1 : EZ t b τ1) (z2 : EZ t b τ2) (y1 : ∃ e1, e0 ≤ e1 ∧ e1 ≤ 4000 ∧ τ1.1 72 = nI e1) (y2 : ∃ e1, e0 ≤ e1 ∧ e1 ≤ 4000 ∧ τ2.1 72 = nI e1) {L1 L2 : Nat → Int32} (d1 : L1 1 = nI (it 0)) (d2 : L2 1 = nI (it 0)) : T2 (fun k => x_clear k 0 L1 (mSc τ1 72 (nI e0))) (fun k => x_clear k 0 L2 (mSc τ2 72 (nI e0))) (fun r1 r2 => FE σ1 r1.2 ∧ FE σ2 r2.2 ∧ EZ t b r1.2 ∧ EZ t b r2.2) := by
  have hF0 := hF
  obtain ⟨hn, hS1, hS2, hC1, ⟨hC2, h69, h30⟩, hK, hm, hIt, x6⟩ := hF
  obtain ⟨ea, a1, a2, a3⟩ := y1
  obtain ⟨eb, b1, b2, b3⟩ := y2
  refine T2_mono (T2_t (z_clear (σ := mSc τ1 72 (nI e0)) (STb_fi hS1 (FI_tr f1 FI_72)) (Cx_fi (e' := e0) hC1 (FI_tr f1 FI_72) rfl) hm hIt (EZ_72 z1 a3 a2 a1) d1) (z_clear (σ := mSc τ2 72 (nI e0)) (STb_fi hS2 (FI_tr f2 FI_72)) (Cx_fi (e' := e0) hC2 (FI_tr f2 FI_72) rfl) hm hIt (EZ_72 z2 b3 b2 b1) d2)) (fun r1 r2 hr => ?_)
  refine ⟨FE_back hC1 (by omega) f1 hr.1.1 (fun a i z => ⟨hr.1.2.2 a i ((NmI_fi f1).mpr z), NmI_NU hC1 hIt z⟩), FE_back hC2 (by omega) f2 hr.2.1 (fun a i z => ?_), hr.1.2.1, hr.2.2.1⟩
  have z' := (NmI_2 hF0).mpr z
  exact ⟨hr.2.2.2 a i ((NmI_fi f2).mpr z'), NmI_NU hC2 hIt z'⟩
/-- the same without one -/
theorem E_close (hF : FoC T FN O K lc n e0 m fu dp it σ1 σ2) (f1 : FI (NmI T σ1 it 0 m) e0 σ1 τ1) (f2 : FI (NmI T σ1 it 0 m) e0 σ2 τ2) (y1 : ∃ e1, e0 ≤ e1 ∧ e1 ≤ 4000 ∧ τ1.1 72 = nI e1) (hI : EI t w XC τ1 τ2) {L1 L2 : Nat → Int32} (d1 : L1 1 = nI (it 0)) (d2 : L2 1 = nI (it 0)) : T2 (fun k => x_clear k 0 L1 (mSc τ1 72 (nI e0))) (fun k => x_clear k 0 L2 (mSc τ2 72 (nI e0))) (fun r1 r2 => FE σ1 r1.2 ∧ FE σ2 r2.2 ∧ (∀ j, j ≠ 72 → r1.2.1 j = τ1.1 j) ∧ (∀ j, j ≠ 72 → r2.2.1 j = τ2.1 j) ∧ EI t w XC r1.2 r2.2) := by
  have hF0 := hF
  obtain ⟨hn, hS1, hS2, hC1, ⟨hC2, h69, h30⟩, hK, hm, hIt, x6⟩ := hF
  obtain ⟨ea, a1, a2, a3⟩ := y1
  refine T2_mono (E_clear (STb_fi hS1 (FI_tr f1 FI_72)) (EI_72 hI a3 a2 a1) (Cx_fi (e' := e0) hC1 (FI_tr f1 FI_72) rfl) hm hIt d1 d2) (fun r1 r2 hr => ?_)
  obtain ⟨k1, k2, s1, s2, hJ, hz⟩ := hr
  refine ⟨FE_back hC1 (by omega) f1 k1 (fun a i z => ⟨(hz a i ((NmI_fi f1).mpr z)).1, NmI_NU hC1 hIt z⟩), FE_back hC2 (by omega) f2 k2 (fun a i z => ⟨(hz a i ((NmI_fi f1).mpr z)).2, NmI_NU hC2 hIt ((NmI_2 hF0).mpr z)⟩), fun j hj => ?_, fun j hj => ?_, hJ⟩
  · rw [s1]; exact upd_other hj
  · rw [s2]; exact upd_other hj
/-- a former's end, with an error -/
theorem b_fendZ {b : Nat} (hF : FoC T FN O K lc n e0 m fu dp it σ1 σ2) (f1 : FI (NmI T σ1 it 0 m) e0 σ1 τ1) (f2 : FI (NmI T σ1 it 0 m) e0 σ2 τ2) (hb : b ≤ 178000 + (c + 3)) (z1 : EZ t b τ1) (z2 : EZ t b τ2) (y1 : ∃ e1, e0 ≤ e1 ∧ e1 ≤ 4000 ∧ τ1.1 72 = nI e1) (y2 : ∃ e1, e0 ≤ e1 ∧ e1 ≤ 4000 ∧ τ2.1 72 = nI e1) {u0 : Nat} {N1 N2 : Nat → Int32} (hN1 : FoL n u0 e0 N1) (hN2 : FoL n u0 e0 N2) : T2 (fun k => x_GV k (c + 3) 5 6 N1 τ1) (fun k => x_GV k (c + 3) 5 6 N2 τ2) (EQ (178000 + (c + 3)) t w XC σ1 σ2) := by
  have hn := hF.1
  refine T2_suc (fun k => e_former_6 k _ _ _) (fun k => e_former_6 k _ _ _) ?_
  rw [hN1.2.2, hN2.2.2]
  show T2 (fun k => x_GV k (c + 3) 5 7 N1 (mSc τ1 72 (nI e0))) (fun k => x_GV k (c + 3) 5 7 N2 (mSc τ2 72 (nI e0))) _
  refine T2_suc (fun k => e_former_7 k _ _ _) (fun k => e_former_7 k _ _ _) ?_
  rw [hN1.1, hN2.1]
  refine T2_chk (n_in (by omega) (by omega)) (n_in (by omega) (by omega)) ?_
  rw [n_cl (p := n) (by omega), (FoC_tb hF (FI_tr f1 (FI_72 (x := nI e0))) (FI_tr f2 (FI_72 (x := nI e0))) (a := 6) (by omega) (by omega) (by omega)).1, (FoC_tb hF (FI_tr f1 (FI_72 (x := nI e0))) (FI_tr f2 (FI_72 (x := nI e0))) (a := 6) (by omega) (by omega) (by omega)).2]
  refine T2_ob (z_close hF f1 f2 z1 z2 y1 y2 hF.2.2.2.2.2.2.2.2 hF.2.2.2.2.2.2.2.2) (fun r1 r2 hr => ?_)
  obtain ⟨k1, k2, v1, v2⟩ := hr
  refine T2_ite ⟨fun z => absurd z (EZ_e v1), fun z => absurd z (EZ_e v2)⟩ (fun z _ => absurd z (EZ_e v1)) (fun _ _ => ?_)
  refine T2_suc (fun k => e_former_10 k _ _ _) (fun k => e_former_10 k _ _ _) ?_
  exact T2_some ⟨k1, k2, Or.inr ⟨EZ_mo v1 (Nat.le_refl _) hb, EZ_mo v2 (Nat.le_refl _) hb⟩⟩
/-- a former's end: the values become a set, a tuple -/
theorem b_fend {w' j : Nat} (hXC : XC ≤ 408500) (hF : FoC T FN O K lc n e0 m fu dp it σ1 σ2) (ht : t + j ≤ 174000) (hj : j ≤ 60000) (hw' : w ≤ w') (f1 : FI (NmI T σ1 it 0 m) e0 σ1 τ1) (f2 : FI (NmI T σ1 it 0 m) e0 σ2 τ2) (q72 : τ1.1 72 = nI e0) (rm1 : Rm 79900 τ1) (rm2 : Rm 79900 τ2) (hI : EI (t + j) w' XC τ1 τ2) {N1 N2 : Nat → Int32} (hN1 : FoL n t e0 N1) (hN2 : FoL n t e0 N2) : T2 (fun k => x_GV k (c + 3) 5 6 N1 τ1) (fun k => x_GV k (c + 3) 5 6 N2 τ2) (EQ (178000 + (c + 3)) t w XC σ1 σ2) := by
  have hn := hF.1
  have he0 := hF.2.2.2.2.2.1
  refine T2_suc (fun k => e_former_6 k _ _ _) (fun k => e_former_6 k _ _ _) ?_
  rw [hN1.2.2, hN2.2.2]
  show T2 (fun k => x_GV k (c + 3) 5 7 N1 (mSc τ1 72 (nI e0))) (fun k => x_GV k (c + 3) 5 7 N2 (mSc τ2 72 (nI e0))) _
  refine T2_suc (fun k => e_former_7 k _ _ _) (fun k => e_former_7 k _ _ _) ?_
  rw [hN1.1, hN2.1, hN1.2.1, hN2.2.1]
  refine T2_chk (n_in (by omega) (by omega)) (n_in (by omega) (by omega)) ?_
  rw [n_cl (p := n) (by omega), (FoC_tb hF (FI_tr f1 (FI_72 (x := nI e0))) (FI_tr f2 (FI_72 (x := nI e0))) (a := 6) (by omega) (by omega) (by omega)).1, (FoC_tb hF (FI_tr f1 (FI_72 (x := nI e0))) (FI_tr f2 (FI_72 (x := nI e0))) (a := 6) (by omega) (by omega) (by omega)).2]
  refine T2_ob (E_close hF f1 f2 ⟨e0, by omega, by omega, q72⟩ hI hF.2.2.2.2.2.2.2.2 hF.2.2.2.2.2.2.2.2) (fun r1 r2 hr => ?_)
  obtain ⟨F1, F2, s1, s2, hK⟩ := hr
  obtain ⟨e1, e2⟩ := EI_e hK
  have rm1' : Rm 79900 r1.2 := Rm_c (s1 54 (by decide)) (s1 55 (by decide)) rm1
  have rm2' : Rm 79900 r2.2 := Rm_c (s2 54 (by decide)) (s2 55 (by decide)) rm2
  rw [e1, e2]
  refine T2_ite Iff.rfl (fun _ _ => ?_) (fun z _ => absurd rfl z)
  refine T2_chk (n_in3 (by omega) (by omega)) (n_in3 (by omega) (by omega)) ?_
  rw [(STb_fe hF.2.1 F1).1 5 _ (by omega) (by omega) (by omega), (STb_fe hF.2.2.1 F2).1 5 _ (by omega) (by omega) (by omega)]
  obtain ⟨g1, l1, B1, h1, X1, g2, l2, B2, h2, X2, hX⟩ := hK
  obtain ⟨a1, a2, aR, i1, i2, t1, q1, q2, w1, hw, x1, x2, ⟨ty1, ty2⟩, a, y1, y2⟩ := hX
  have hh1 := Rm_h a1.1 rm1'
  have hh2 := Rm_h a2.1 rm2'
  have al : ∀ j, AlS j → r2.2.1 j = r1.2.1 j := fun j h => (aR.2.2.1 j h).symm
  have t2 : r2.2.1 59 = nI (t + j) := (al 59 (by unfold AlS; omega)).trans t1
  have w2 : r2.2.1 57 = nI w' := (al 57 (by unfold AlS; omega)).trans w1
  have pl : PlE g1 g2 r1.2 r2.2 t j := fun i hi => aR.1 29 (t + i) (Or.inl ⟨rfl, by omega⟩) (by unfold VwR; omega)
  have m1 : MI t X1 g1 l1 B1 h1 r1.2 := MI_mo a1 (by omega)
  have m2 : MI t X2 g2 l2 B2 h2 r2.2 := MI_mo a2 (by omega)
  have fin : ∀ (M1 M2 : Nat → Int32) (v1 v2 : Int32 × MS), M1 100 = v1.1 → M2 100 = v2.1 → VO g1 B1 h1 t r1.2 v1 → VO g2 B2 h2 t r2.2 v2 → KQ h1 h2 (4 + j) v1 v2 → v1.2.2.1 = r1.2.2.1 → v2.2.2.1 = r2.2.2.1 → T2 (fun k => x_GV k (c + 3) 5 9 M1 v1.2) (fun k => x_GV k (c + 3) 5 9 M2 v2.2) (EQ (178000 + (c + 3)) t w XC σ1 σ2) := by
    intro M1 M2 v1 v2 p1 p2 o1 o2 hq wl1 wl2
    refine T2_suc (fun k => e_former_9 k _ _ _) (fun k => e_former_9 k _ _ _) ?_
    rw [p1, p2]
    have o1' := o1
    have o2'' := o2
    obtain ⟨_, _, _, _, fw1, _⟩ := o1'
    obtain ⟨_, _, _, _, fw2, _⟩ := o2''
    have p57 : v1.2.1 57 = v2.2.1 57 := by rw [fw1.1 57 (by decide), fw2.1 57 (by decide), w1, w2]
    have p95 := fw1.1 95 (by decide)
    have p95' := fw2.1 95 (by decide)
    refine E_ans m1 m2 (RA_mo (by omega) aR) i1 i2 (by omega) ty1 ty2 ⟨a, p95.trans y1, y2⟩ (p95.trans ((aR.2.2.1 95 (by unfold AlS; omega)).trans p95'.symm)) (SO_of (W := 0) (by omega) m1 w1 hw.1 x1 (VQ_of o1)) (SO_of (W := 0) (by omega) m2 w2 hw.1 x2 (VQ_of o2)) ⟨KR_of (c := 8600) (VO_54 o1) (VO_54 o2) (by omega) hq p57, by rw [wl1, wl2]; exact aR.2.2.2⟩ (fun u1 u2 h1 h2 h => ?_)
    refine T2_suc (fun k => e_former_10 k _ _ _) (fun k => e_former_10 k _ _ _) ?_
    exact T2_some (EQ_ans F1 F2 hw' (by omega) h1 h2 h)
  refine T2_ite Iff.rfl (fun _ _ => ?_) (fun _ _ => ?_)
  · refine T2_ob (T2_of (s_setOf (L := upd (fun _ => 0) 1 (nI t)) a1.1 ⟨0, q1, by decide⟩ t1 (by omega) (by omega) (PlE_1 pl) rfl) (s_setOf (L := upd (fun _ => 0) 1 (nI t)) a2.1 ⟨0, q2, by decide⟩ t2 (by omega) (by omega) (PlE_2 pl) rfl) (fun n' => Pm_wl (fun k => wl_setOf k _ _ _) (fun k => wl_setOf k _ _ _) (k_setOf a1.1 a2.1 q1 q2 t1 t2 (by omega) (by omega) (by omega) (by omega) pl rfl rfl))) (fun v1 v2 hs => ?_)
    obtain ⟨⟨hq, wl1, wl2⟩, o1, o2⟩ := hs
    exact fin _ _ v1 v2 rfl rfl o1 o2 hq wl1 wl2
  · refine T2_suc (fun k => e_former_8 k _ _ _) (fun k => e_former_8 k _ _ _) ?_
    rw [hN1.2.1, hN2.2.1]
    refine T2_ob (T2_of (s_tupleOf (L := upd (fun _ => 0) 1 (nI t)) a1.1 ⟨0, q1, by decide⟩ t1 (by omega) (PlE_1 pl) rfl) (s_tupleOf (L := upd (fun _ => 0) 1 (nI t)) a2.1 ⟨0, q2, by decide⟩ t2 (by omega) (PlE_2 pl) rfl) (fun n' => Pm_wl (fun k => wl_tupleOf k _ _ _) (fun k => wl_tupleOf k _ _ _) (k_tupleOf a1.1 a2.1 q1 q2 t1 t2 (by omega) (by omega) (by omega) pl rfl rfl))) (fun v1 v2 hs => ?_)
    obtain ⟨⟨hq, wl1, wl2⟩, o1, o2⟩ := hs
    exact fin _ _ v1 v2 rfl rfl o1 o2 hq wl1 wl2
end EFO
end JnS222
section JnS223
/-! Evaluation on both sides (reference): the loop of a former. -/
/-- a former's loop, q rounds are left at the most -/
def FoP (N : Nat → Nat → Prop) (n c e0 m t w XC : Nat) (it : Nat → Nat) (σ1 σ2 : MS) (q : Nat) : Prop := ∀ (j w' : Nat) (N1 N2 : Nat → Int32) (τ1 τ2 : MS), 60001 ≤ q + w' → j + w + 1 ≤ w' → FoL n t e0 N1 → FoL n t e0 N2 → N1 4 = 1 → N2 4 = 1 → FI N e0 σ1 τ1 → FI N e0 σ2 τ2 → GIt e0 m it τ1 τ2 → EI (t + j) w' XC τ1 τ2 → T2 (fun k => x_GV k (c + 3) 5 1 N1 τ1) (fun k => x_GV k (c + 3) 5 1 N2 τ2) (EQ (178000 + (c + 3)) t w XC σ1 σ2)
section EFL
variable {T : Nat → Nat → Int32} {FN : Nat → Nat → Prop} {O r K d t u w XC : Nat} {lc : Nat → Prop} {σ σ1 σ2 τ τ1 τ2 ρ : MS} {n c m e0 fu dp : Nat} {it : Nat → Nat}
/-- behind goOn: the next round, or the end -/
theorem fo_ent {q j w' : Nat} (hXC : XC ≤ 408500) (h60 : t + (60000 - w) ≤ 174000) (hF : FoC T FN O K lc n e0 m fu dp it σ1 σ2) (hq : FoP (NmI T σ1 it 0 m) n c e0 m t w XC it σ1 σ2 q) (hw : 60000 ≤ q + w') (hj : j + w ≤ w') {r1 r2 : Int32 × MS} (hr : GnQ (NmI T σ1 it 0 m) (178000 + c) e0 m (t + j) w' XC it σ1 σ2 r1 r2) {N1 N2 : Nat → Int32} (hN1 : FoL n t e0 N1) (hN2 : FoL n t e0 N2) (n4 : N1 4 = r1.1) (o4 : N2 4 = r2.1) : T2 (fun k => x_GV k (c + 3) 5 1 N1 r1.2) (fun k => x_GV k (c + 3) 5 1 N2 r2.2) (EQ (178000 + (c + 3)) t w XC σ1 σ2) := by
  obtain ⟨g1, g2, h12, hor⟩ := hr
  rcases hor with ⟨w2, hw2, hJ, hor⟩ | ⟨z0, z1, z2, y1, y2⟩
  · rcases hor with ⟨y0, yw, hG⟩ | ⟨y0, y72, rm1, rm2⟩
    · exact hq j w2 N1 N2 r1.2 r2.2 (by omega) (by omega) hN1 hN2 (n4.trans y0) (o4.trans (h12.symm.trans y0)) g1 g2 hG hJ
    · have := EI_w hJ
      refine T2_suc (fun k => e_former_1 k _ _ _) (fun k => e_former_1 k _ _ _) ?_
      rw [n4, o4, ← h12, y0]
      refine T2_ite Iff.rfl (fun _ _ => ?_) (fun z _ => absurd rfl z)
      exact b_fend hXC hF (by omega) (by omega) (by omega) g1 g2 y72 rm1 rm2 hJ hN1 hN2
  · refine T2_suc (fun k => e_former_1 k _ _ _) (fun k => e_former_1 k _ _ _) ?_
    rw [n4, o4, ← h12, z0]
    refine T2_ite Iff.rfl (fun _ _ => ?_) (fun z _ => absurd rfl z)
    exact b_fendZ hF g1 g2 (by omega) (EZ_mo z1 (by omega) (Nat.le_refl _)) (EZ_mo z2 (by omega) (Nat.le_refl _)) y1 y2 hN1 hN2
/-- an error within the loop -/
theorem fo_z3 {b : Nat} (hF : FoC T FN O K lc n e0 m fu dp it σ1 σ2) (f1 : FI (NmI T σ1 it 0 m) e0 σ1 τ1) (f2 : FI (NmI T σ1 it 0 m) e0 σ2 τ2) (hb : b ≤ 178000 + (c + 3)) (z1 : EZ t b τ1) (z2 : EZ t b τ2) (y1 : τ1.1 72 = nI (e0 + m)) (y2 : τ2.1 72 = nI (e0 + m)) {N1 N2 : Nat → Int32} (hN1 : FoL n u e0 N1) (hN2 : FoL n u e0 N2) : T2 (fun k => x_GV k (c + 3) 5 3 N1 τ1) (fun k => x_GV k (c + 3) 5 3 N2 τ2) (EQ (178000 + (c + 3)) t w XC σ1 σ2) := by
  have hK := hF.2.2.2.2.2.1
  refine T2_suc (fun k => e_former_3 k _ _ _) (fun k => e_former_3 k _ _ _) ?_
  refine T2_ite ⟨fun z => absurd z (EZ_e z1), fun z => absurd z (EZ_e z2)⟩ (fun z _ => absurd z (EZ_e z1)) (fun _ _ => ?_)
  refine T2_suc (fun k => e_former_4 k _ _ _) (fun k => e_former_4 k _ _ _) ?_
  refine T2_suc (fun k => e_former_5 k _ _ _) (fun k => e_former_5 k _ _ _) ?_
  refine T2_suc (fun k => e_former_1 k _ _ _) (fun k => e_former_1 k _ _ _) ?_
  refine T2_ite (c1 := (0 : Int32) = 0) (c2 := (0 : Int32) = 0) Iff.rfl (fun _ _ => ?_) (fun z _ => absurd rfl z)
  exact b_fendZ hF f1 f2 hb z1 z2 ⟨e0 + m, by omega, by omega, y1⟩ ⟨e0 + m, by omega, by omega, y2⟩ hN1 hN2
theorem fo_3 {q j w' : Nat} (hE0 : PE T FN c) (hO : 1 ≤ O) (hP : PC T FN O r K lc (c + 5) t w XC σ1) (hF : FoC T FN (O - 1) K lc n e0 m fu dp it σ1 σ2) (hq : FoP (NmI T σ1 it 0 m) n c e0 m t w XC it σ1 σ2 q) (hw : 60000 ≤ q + w') (hj : j + w ≤ w') {N1 N2 : Nat → Int32} (hN1 : FoL n t e0 N1) (hN2 : FoL n t e0 N2) (f1 : FI (NmI T σ1 it 0 m) e0 σ1 τ1) (f2 : FI (NmI T σ1 it 0 m) e0 σ2 τ2) (hG : GIt e0 m it τ1 τ2) (hI : EI (t + j) w' XC τ1 τ2) : T2 (fun k => x_GV k (c + 3) 5 3 N1 τ1) (fun k => x_GV k (c + 3) 5 3 N2 τ2) (EQ (178000 + (c + 3)) t w XC σ1 σ2) := by
  have h60 := PC_t60 hP
  have hw6 := EI_w hI
  have hXC := hP.2.1
  have hn := hF.1
  have hK := hF.2.2.2.2.2.1
  obtain ⟨e1, e2⟩ := EI_e hI
  refine T2_suc (fun k => e_former_3 k _ _ _) (fun k => e_former_3 k _ _ _) ?_
  rw [e1, e2, hN1.1, hN2.1]
  refine T2_ite Iff.rfl (fun _ _ => ?_) (fun z _ => absurd rfl z)
  refine T2_chk (n_in (by omega) (by omega)) (n_in (by omega) (by omega)) ?_
  rw [n_cl (p := n) (by omega), (FoC_tb hF f1 f2 (a := 6) (by omega) (by omega) (by omega)).1, (FoC_tb hF f1 f2 (a := 6) (by omega) (by omega) (by omega)).2]
  refine T2_od ?_
  refine T2_ob (b_goOn (N := NmI T σ1 it 0 m) (x := 0) hE0 hO hP hF.2.2.2.1.2.2.2.2.1 hK.1 hF.2.2.1 hF.2.2.2.2.2.2.1 hF.2.2.2.2.2.2.2.1 (fun j hj a i z => ⟨j, Nat.zero_le _, hj, z⟩) (by omega) (by omega) (by omega) (Nat.le_refl m) (Or.inl ⟨rfl, hF.2.2.2.2.2.2.1⟩) f1 f2 hG hI (by exact hN1.2.2) (by exact hN2.2.2) (by exact hF.2.2.2.2.2.2.2.2) (by exact hF.2.2.2.2.2.2.2.2) rfl rfl) (fun r1 r2 hr => ?_)
  have h12 := hr.2.2.1
  refine T2_ite ⟨fun z => h12.symm.trans z, fun z => h12.trans z⟩ (fun z z' => ?_) (fun z z' => ?_)
  · refine T2_suc (fun k => e_former_4 k _ _ _) (fun k => e_former_4 k _ _ _) ?_
    refine T2_suc (fun k => e_former_5 k _ _ _) (fun k => e_former_5 k _ _ _) ?_
    exact fo_ent hXC h60 hF hq hw hj hr hN1 hN2 z.symm z'.symm
  · have y1 : r1.1 = 1 := by
      rcases hr.2.2.2 with ⟨_, _, _, y | y⟩ | y
      · exact y.1
      · exact absurd y.1 z
      · exact absurd y.1 z
    refine T2_suc (fun k => e_former_5 k _ _ _) (fun k => e_former_5 k _ _ _) ?_
    exact fo_ent hXC h60 hF hq hw hj hr hN1 hN2 y1.symm (h12.symm.trans y1).symm
theorem fo_loop {f0 : Nat} (hE0 : PE T FN c) (hE1 : PE T FN (c + 1)) (hE2 : PE T FN (c + 2)) (hO : 1 ≤ O) (W7 : T 7 n = -1 ∨ WN T FN f0 0 (O - 1) 14 (K - m) lc (T 7 n)) (W8 : WN T FN f0 0 (O - 1) 14 (K - m) lc (T 8 n)) (hP : PC T FN O r K lc (c + 5) t w XC σ1) (hF : FoC T FN (O - 1) K lc n e0 m fu dp it σ1 σ2) : ∀ q, FoP (NmI T σ1 it 0 m) n c e0 m t w XC it σ1 σ2 q := by
  have h60 := PC_t60 hP
  have hXC := hP.2.1
  have hd13 := hP.2.2.2.2.1
  have hn := hF.1
  have hK := hF.2.2.2.2.2.1
  have h72 := hF.2.2.2.1.2.2.2.2.1
  intro q
  induction q with
  | zero =>
    intro j w' N1 N2 τ1 τ2 hq hj hN1 hN2 n4 o4 f1 f2 hG hI
    have := EI_w hI
    omega
  | succ q ih =>
    intro j w' N1 N2 τ1 τ2 hq hj hN1 hN2 n4 o4 f1 f2 hG hI
    have hw6 := EI_w hI
    -- the value
    have b2 : ∀ (w2 : Nat) (M1 M2 : Nat → Int32) (υ1 υ2 : MS), w' ≤ w2 → FoL n t e0 M1 → FoL n t e0 M2 → FI (NmI T σ1 it 0 m) e0 σ1 υ1 → FI (NmI T σ1 it 0 m) e0 σ2 υ2 → GIt e0 m it υ1 υ2 → EI (t + j) w2 XC υ1 υ2 → T2 (fun k => x_GV k (c + 3) 5 2 M1 υ1) (fun k => x_GV k (c + 3) 5 2 M2 υ2) (EQ (178000 + (c + 3)) t w XC σ1 σ2) := by
      intro w2 M1 M2 υ1 υ2 hw2 hM1 hM2 k1 k2 hG2 hJ
      have hw62 := EI_w hJ
      have v72 : υ1.1 72 = nI (e0 + m) := hG2.1
      have u72 : υ2.1 72 = nI (e0 + m) := (EI_x50 hJ).trans v72
      refine T2_suc (fun k => e_former_2 k _ _ _) (fun k => e_former_2 k _ _ _) ?_
      rw [hM1.1, hM2.1]
      refine T2_chk (n_in (by omega) (by omega)) (n_in (by omega) (by omega)) ?_
      rw [n_cl (p := n) (by omega), (FoC_tb hF k1 k2 (a := 8) (by omega) (by omega) (by omega)).1, (FoC_tb hF k1 k2 (a := 8) (by omega) (by omega) (by omega)).2]
      refine T2_od ?_
      have pc : PC T FN (O - 1) 14 (K - m) lc (c + 2) (t + j) w2 XC υ1 := PC_fi hP h72 (by omega) k1 v72 hO (by omega) (by omega) hw62 (by omega) (by omega) (by omega) (by omega)
      refine T2_ob (hE2 f0 (O - 1) 14 (K - m) lc (T 8 n) (t + j) w2 XC υ1 υ2 _ _ W8 pc hJ rfl rfl) (fun r1 r2 hr => ?_)
      obtain ⟨p1, p2, hr⟩ := hr
      have gg1 : FI (NmI T σ1 it 0 m) e0 σ1 r1.2 := FI_tr k1 (FI_fe p1 v72 (by omega) (by omega))
      have gg2 : FI (NmI T σ1 it 0 m) e0 σ2 r2.2 := FI_tr k2 (FI_fe p2 u72 (by omega) (by omega))
      have hG3 := GIt_fe hG2 (by omega) p1 p2
      have r72 : r1.2.1 72 = nI (e0 + m) := hG3.1
      have r72' : r2.2.1 72 = nI (e0 + m) := (p2.1 72 (by unfold AlS; omega) (by decide) (by decide) (by decide)).trans u72
      rcases hr with ⟨w3, hw3, hL⟩ | ⟨z1, z2⟩
      case inr =>
        refine T2_ite ⟨fun z => absurd z (EZ_e z1), fun z => absurd z (EZ_e z2)⟩ (fun z _ => absurd z (EZ_e z1)) (fun _ _ => ?_)
        exact fo_z3 hF gg1 gg2 (by omega) (EZ_mo z1 (by omega) (Nat.le_refl _)) (EZ_mo z2 (by omega) (Nat.le_refl _)) r72 r72' hM1 hM2
      have b3 : T2 (fun k => x_GV k (c + 3) 5 3 M1 r1.2) (fun k => x_GV k (c + 3) 5 3 M2 r2.2) (EQ (178000 + (c + 3)) t w XC σ1 σ2) := fo_3 (j := j + 1) hE0 hO hP hF ih (by omega) (by omega) hM1 hM2 gg1 gg2 hG3 hL
      obtain ⟨e1, e2⟩ := EI_e hL
      obtain ⟨s1, s2⟩ := EI_59 hL
      rw [e1, e2, s1, s2, n_sub1 (by omega)]
      refine T2_ite Iff.rfl (fun _ _ => ?_) (fun z _ => absurd rfl z)
      refine T2_chk (n_in3 (by omega) (by omega)) (n_in3 (by omega) (by omega)) ?_
      rw [(FoC_tb hF gg1 gg2 (a := 5) (by omega) (by omega) (by omega)).1, (FoC_tb hF gg1 gg2 (a := 5) (by omega) (by omega) (by omega)).2]
      refine T2_ite Iff.rfl (fun _ _ => ?_) (fun _ _ => b3)
      refine T2_chk (n_in (by omega) (by omega)) (n_in (by omega) (by omega)) ?_
      rw [n_cl (p := t + j) (by omega)]
      obtain ⟨gA, gB, vc⟩ := EI_top (i := t + j) (by omega) hL
      refine T2_ite (VC_c (c := 0) (by decide) vc) (fun _ _ => ?_) (fun _ _ => b3)
      refine T2_ob (T2_t (s_fail _ _) (s_fail _ _)) (fun v1 v2 hv => ?_)
      rw [hv.1, hv.2]
      obtain ⟨z1, z2⟩ := E_er (a := t) (b := 178000) (e := 3) hXC hL (by decide) (by decide) (by omega) (by omega)
      exact fo_z3 hF (FI_tr gg1 (FI_fe FE_er r72 (by omega) (by omega))) (FI_tr gg2 (FI_fe FE_er r72' (by omega) (by omega))) (by omega) z1 z2 ((mEr_s (by decide)).trans r72) ((mEr_s (by decide)).trans r72') hM1 hM2
    obtain ⟨e1, e2⟩ := EI_e hI
    have v72 : τ1.1 72 = nI (e0 + m) := hG.1
    have u72 : τ2.1 72 = nI (e0 + m) := (EI_x50 hI).trans v72
    refine T2_suc (fun k => e_former_1 k _ _ _) (fun k => e_former_1 k _ _ _) ?_
    rw [n4, o4, e1, e2, hN1.1, hN2.1]
    refine T2_ite Iff.rfl (fun z _ => absurd z (by decide)) (fun _ _ => ?_)
    refine T2_ite Iff.rfl (fun _ _ => ?_) (fun z _ => absurd rfl z)
    refine T2_chk (n_in (by omega) (by omega)) (n_in (by omega) (by omega)) ?_
    rw [n_cl (p := n) (by omega), (FoC_tb hF f1 f2 (a := 7) (by omega) (by omega) (by omega)).1, (FoC_tb hF f1 f2 (a := 7) (by omega) (by omega) (by omega)).2]
    refine T2_ite Iff.rfl (fun _ _ => b2 w' _ _ τ1 τ2 (Nat.le_refl _) hN1 hN2 f1 f2 hG hI) (fun z7 _ => ?_)
    refine T2_chk (n_in3 (by omega) (by omega)) (n_in3 (by omega) (by omega)) ?_
    refine T2_od ?_
    have pc : PC T FN (O - 1) 14 (K - m) lc (c + 1) (t + j) w' XC τ1 := PC_fi hP h72 (by omega) f1 v72 hO (by omega) (by omega) hw6 (by omega) (by omega) (by omega) (by omega)
    refine T2_ob (b_holds hE1 (W7.resolve_left z7) pc hI rfl rfl) (fun r1 r2 hr => ?_)
    obtain ⟨h12, p1, p2, hr⟩ := hr
    have gg1 : FI (NmI T σ1 it 0 m) e0 σ1 r1.2 := FI_tr f1 (FI_fe p1 v72 (by omega) (by omega))
    have gg2 : FI (NmI T σ1 it 0 m) e0 σ2 r2.2 := FI_tr f2 (FI_fe p2 u72 (by omega) (by omega))
    have hG3 := GIt_fe hG (by omega) p1 p2
    have r72 : r1.2.1 72 = nI (e0 + m) := hG3.1
    have r72' : r2.2.1 72 = nI (e0 + m) := (p2.1 72 (by unfold AlS; omega) (by decide) (by decide) (by decide)).trans u72
    rcases hr with ⟨w2, hw2, hJ⟩ | ⟨z1, z2, z0⟩
    · refine T2_ite ⟨fun z => h12.symm.trans z, fun z => h12.trans z⟩ (fun _ _ => ?_) (fun _ _ => ?_)
      · exact fo_3 (j := j) hE0 hO hP hF ih (by omega) (by omega) hN1 hN2 gg1 gg2 hG3 hJ
      · exact b2 w2 _ _ r1.2 r2.2 hw2 hN1 hN2 gg1 gg2 hG3 hJ
    · refine T2_ite ⟨fun z => h12.symm.trans z, fun z => h12.trans z⟩ (fun _ _ => ?_) (fun z _ => absurd z0 z)
      exact fo_z3 hF gg1 gg2 (by omega) (EZ_mo z1 (by omega) (Nat.le_refl _)) (EZ_mo z2 (by omega) (Nat.le_refl _)) r72 r72' hN1 hN2
/-- a former -/
theorem b_former {f0 : Nat} (hE0 : PE T FN c) (hE1 : PE T FN (c + 1)) (hE2 : PE T FN (c + 2)) (hn : (1 ≤ n ∧ n < LNo T % 70001)) (hO : 1 ≤ O) (hm : 1 ≤ m) (hmK : m ≤ K) (W6 : WN T FN f0 4 (O - 1) m K lc (T 6 n)) (W7 : T 7 n = -1 ∨ WN T FN f0 0 (O - 1) 14 (K - m) lc (T 7 n)) (W8 : WN T FN f0 0 (O - 1) 14 (K - m) lc (T 8 n)) (hP : PC T FN O r K lc (c + 5) t w XC σ1) (hI : EI t w XC σ1 σ2) {L1 L2 : Nat → Int32} (d1 : L1 1 = nI n) (d2 : L2 1 = nI n) : T2 (fun k => x_GV k (c + 3) 5 0 L1 σ1) (fun k => x_GV k (c + 3) 5 0 L2 σ2) (EQ (178000 + (c + 3)) t w XC σ1 σ2) := by
  obtain ⟨e0, fu, dp, it, hF⟩ := FoC_of hn hm hmK W6 hP hI
  have h60 := PC_t60 hP
  have hw6 := EI_w hI
  have hXC := hP.2.1
  have hK := hF.2.2.2.2.2.1
  have h72 := hF.2.2.2.1.2.2.2.2.1
  have h72' := hF.2.2.2.2.1.1.2.2.2.2.1
  obtain ⟨s1, s2⟩ := EI_59 hI
  refine T2_suc (fun k => e_former_0 k _ _ _) (fun k => e_former_0 k _ _ _) ?_
  rw [d1, d2, s1, s2, h72, h72']
  refine T2_chk (n_in (by omega) (by omega)) (n_in (by omega) (by omega)) ?_
  rw [n_cl (p := n) (by omega), hF.2.1.1 6 _ (by omega) (by omega) (by omega), hF.2.2.1.1 6 _ (by omega) (by omega) (by omega)]
  refine T2_od ?_
  refine T2_ob (b_goOn (N := NmI T σ1 it 0 m) (x := 1) (j0 := 0) (t := t) (w := w) hE0 hO hP h72 hK.1 hF.2.2.1 hm hF.2.2.2.2.2.2.2.1 (fun j hj a i z => ⟨j, Nat.zero_le _, hj, z⟩) (by omega) (Nat.le_refl _) (by omega) (Nat.zero_le _) (Or.inr ⟨rfl, hm⟩) FI_rf FI_rf ⟨h72, fun i hi => absurd hi (Nat.not_lt_zero i)⟩ hI rfl rfl (by exact hF.2.2.2.2.2.2.2.2) (by exact hF.2.2.2.2.2.2.2.2) rfl rfl) (fun r1 r2 hr => ?_)
  exact fo_ent (q := 60000) (j := 0) hXC h60 hF (fo_loop hE0 hE1 hE2 hO W7 W8 hP hF 60000) (by omega) (by omega) hr ⟨d1, rfl, rfl⟩ ⟨d2, rfl, rfl⟩ rfl rfl
end EFL
end JnS223
section JnS224
/-! Evaluation on both sides (reference): quantifiers. -/
/-- locals of a quantifier -/
def QuL (n e0 : Nat) (p : Int32) (N : Nat → Int32) : Prop := N 1 = nI n ∧ N 2 = nI e0 ∧ N 3 = p
def QuP (N : Nat → Nat → Prop) (n c e0 m t w XC : Nat) (p : Int32) (it : Nat → Nat) (σ1 σ2 : MS) (q : Nat) : Prop := ∀ (w' : Nat) (N1 N2 : Nat → Int32) (τ1 τ2 : MS), 60001 ≤ q + w' → w ≤ w' → QuL n e0 p N1 → QuL n e0 p N2 → N1 5 = 1 → N2 5 = 1 → FI N e0 σ1 τ1 → FI N e0 σ2 τ2 → GIt e0 m it τ1 τ2 → EI t w' XC τ1 τ2 → T2 (fun k => x_GV k (c + 3) 10 3 N1 τ1) (fun k => x_GV k (c + 3) 10 3 N2 τ2) (EQ (178000 + (c + 3)) t w XC σ1 σ2)
section EQU
variable {T : Nat → Nat → Int32} {FN : Nat → Nat → Prop} {O r K d t u w XC : Nat} {lc : Nat → Prop} {σ σ1 σ2 τ τ1 τ2 ρ : MS} {n c m e0 fu dp : Nat} {p : Int32} {it : Nat → Nat}
/-- a quantifier's end, with an error -/
theorem b_qendZ {b : Nat} (hF : FoC T FN O K lc n e0 m fu dp it σ1 σ2) (f1 : FI (NmI T σ1 it 0 m) e0 σ1 τ1) (f2 : FI (NmI T σ1 it 0 m) e0 σ2 τ2) (hb : b ≤ 178000 + (c + 3)) (z1 : EZ t b τ1) (z2 : EZ t b τ2) (y1 : ∃ e1, e0 ≤ e1 ∧ e1 ≤ 4000 ∧ τ1.1 72 = nI e1) (y2 : ∃ e1, e0 ≤ e1 ∧ e1 ≤ 4000 ∧ τ2.1 72 = nI e1) {N1 N2 : Nat → Int32} (hN1 : QuL n e0 p N1) (hN2 : QuL n e0 p N2) : T2 (fun k => x_GV k (c + 3) 10 8 N1 τ1) (fun k => x_GV k (c + 3) 10 8 N2 τ2) (EQ (178000 + (c + 3)) t w XC σ1 σ2) := by
  have hn := hF.1
  refine T2_suc (fun k => e_quantify_8 k _ _ _) (fun k => e_quantify_8 k _ _ _) ?_
  rw [hN1.2.1, hN2.2.1]
  show T2 (fun k => x_GV k (c + 3) 10 9 N1 (mSc τ1 72 (nI e0))) (fun k => x_GV k (c + 3) 10 9 N2 (mSc τ2 72 (nI e0))) _
  refine T2_suc (fun k => e_quantify_9 k _ _ _) (fun k => e_quantify_9 k _ _ _) ?_
  rw [hN1.1, hN2.1]
  refine T2_chk (n_in (by omega) (by omega)) (n_in (by omega) (by omega)) ?_
  rw [n_cl (p := n) (by omega), (FoC_tb hF (FI_tr f1 (FI_72 (x := nI e0))) (FI_tr f2 (FI_72 (x := nI e0))) (a := 6) (by omega) (by omega) (by omega)).1, (FoC_tb hF (FI_tr f1 (FI_72 (x := nI e0))) (FI_tr f2 (FI_72 (x := nI e0))) (a := 6) (by omega) (by omega) (by omega)).2]
  refine T2_ob (z_close hF f1 f2 z1 z2 y1 y2 hF.2.2.2.2.2.2.2.2 hF.2.2.2.2.2.2.2.2) (fun r1 r2 hr => ?_)
  obtain ⟨k1, k2, v1, v2⟩ := hr
  refine T2_ite ⟨fun z => absurd z (EZ_e v1), fun z => absurd z (EZ_e v2)⟩ (fun z _ => absurd z (EZ_e v1)) (fun _ _ => ?_)
  refine T2_suc (fun k => e_quantify_12 k _ _ _) (fun k => e_quantify_12 k _ _ _) ?_
  exact T2_some ⟨k1, k2, Or.inr ⟨EZ_mo v1 (Nat.le_refl _) hb, EZ_mo v2 (Nat.le_refl _) hb⟩⟩
/-- a quantifier's end -/
theorem b_qend {w' : Nat} (hF : FoC T FN O K lc n e0 m fu dp it σ1 σ2) (ht : t ≤ 174000) (hw' : w ≤ w') (f1 : FI (NmI T σ1 it 0 m) e0 σ1 τ1) (f2 : FI (NmI T σ1 it 0 m) e0 σ2 τ2) (y1 : ∃ e1, e0 ≤ e1 ∧ e1 ≤ 4000 ∧ τ1.1 72 = nI e1) (hI : EI t w' XC τ1 τ2) {N1 N2 : Nat → Int32} (hN1 : QuL n e0 p N1) (hN2 : QuL n e0 p N2) (n4 : N1 4 = N2 4) : T2 (fun k => x_GV k (c + 3) 10 8 N1 τ1) (fun k => x_GV k (c + 3) 10 8 N2 τ2) (EQ (178000 + (c + 3)) t w XC σ1 σ2) := by
  have hn := hF.1
  refine T2_suc (fun k => e_quantify_8 k _ _ _) (fun k => e_quantify_8 k _ _ _) ?_
  rw [hN1.2.1, hN2.2.1]
  show T2 (fun k => x_GV k (c + 3) 10 9 N1 (mSc τ1 72 (nI e0))) (fun k => x_GV k (c + 3) 10 9 N2 (mSc τ2 72 (nI e0))) _
  refine T2_suc (fun k => e_quantify_9 k _ _ _) (fun k => e_quantify_9 k _ _ _) ?_
  rw [hN1.1, hN2.1, hN1.2.2, hN2.2.2, n4]
  refine T2_chk (n_in (by omega) (by omega)) (n_in (by omega) (by omega)) ?_
  rw [n_cl (p := n) (by omega), (FoC_tb hF (FI_tr f1 (FI_72 (x := nI e0))) (FI_tr f2 (FI_72 (x := nI e0))) (a := 6) (by omega) (by omega) (by omega)).1, (FoC_tb hF (FI_tr f1 (FI_72 (x := nI e0))) (FI_tr f2 (FI_72 (x := nI e0))) (a := 6) (by omega) (by omega) (by omega)).2]
  refine T2_ob (E_close hF f1 f2 y1 hI hF.2.2.2.2.2.2.2.2 hF.2.2.2.2.2.2.2.2) (fun r1 r2 hr => ?_)
  obtain ⟨F1, F2, s1, s2, hK⟩ := hr
  obtain ⟨e1, e2⟩ := EI_e hK
  have fin : ∀ (M1 M2 : Nat → Int32), M1 100 = M2 100 → T2 (fun k => x_GV k (c + 3) 10 11 M1 r1.2) (fun k => x_GV k (c + 3) 10 11 M2 r2.2) (EQ (178000 + (c + 3)) t w XC σ1 σ2) := by
    intro M1 M2 m100
    refine T2_suc (fun k => e_quantify_11 k _ _ _) (fun k => e_quantify_11 k _ _ _) ?_
    refine E_tru (by omega) hK (by exact m100) (fun v1 v2 h1 h2 h => ?_)
    refine T2_suc (fun k => e_quantify_12 k _ _ _) (fun k => e_quantify_12 k _ _ _) ?_
    exact T2_some (EQ_ans F1 F2 hw' (by omega) h1 h2 h)
  rw [e1, e2]
  refine T2_ite Iff.rfl (fun _ _ => ?_) (fun z _ => absurd rfl z)
  refine T2_ite Iff.rfl (fun _ _ => fin _ _ rfl) (fun _ _ => ?_)
  refine T2_suc (fun k => e_quantify_10 k _ _ _) (fun k => e_quantify_10 k _ _ _) ?_
  exact fin _ _ rfl
/-- behind goOn: the next round, or the end -/
theorem qu_ent {q w' : Nat} (ht : t ≤ 174000) (hF : FoC T FN O K lc n e0 m fu dp it σ1 σ2) (hq : QuP (NmI T σ1 it 0 m) n c e0 m t w XC p it σ1 σ2 q) (hw : 60000 ≤ q + w') (hj : w ≤ w') {r1 r2 : Int32 × MS} (hr : GnQ (NmI T σ1 it 0 m) (178000 + c) e0 m t w' XC it σ1 σ2 r1 r2) {N1 N2 : Nat → Int32} (hN1 : QuL n e0 p N1) (hN2 : QuL n e0 p N2) (n4 : N1 4 = N2 4) (n5 : N1 5 = r1.1) (o5 : N2 5 = r2.1) : T2 (fun k => x_GV k (c + 3) 10 3 N1 r1.2) (fun k => x_GV k (c + 3) 10 3 N2 r2.2) (EQ (178000 + (c + 3)) t w XC σ1 σ2) := by
  have hK := hF.2.2.2.2.2.1
  obtain ⟨g1, g2, h12, hor⟩ := hr
  rcases hor with ⟨w2, hw2, hJ, hor⟩ | ⟨z0, z1, z2, y1, y2⟩
  · rcases hor with ⟨y0, yw, hG⟩ | ⟨y0, y72, rm1, rm2⟩
    · exact hq w2 N1 N2 r1.2 r2.2 (by omega) (by omega) hN1 hN2 (n5.trans y0) (o5.trans (h12.symm.trans y0)) g1 g2 hG hJ
    · refine T2_suc (fun k => e_quantify_3 k _ _ _) (fun k => e_quantify_3 k _ _ _) ?_
      rw [n5, o5, ← h12, y0]
      refine T2_ite Iff.rfl (fun _ _ => ?_) (fun z _ => absurd rfl z)
      exact b_qend hF ht (by omega) g1 g2 ⟨e0, by omega, by omega, y72⟩ hJ hN1 hN2 n4
  · refine T2_suc (fun k => e_quantify_3 k _ _ _) (fun k => e_quantify_3 k _ _ _) ?_
    rw [n5, o5, ← h12, z0]
    refine T2_ite Iff.rfl (fun _ _ => ?_) (fun z _ => absurd rfl z)
    exact b_qendZ hF g1 g2 (by omega) z1 z2 y1 y2 hN1 hN2
/-- an error within the loop -/
theorem qu_z4 {b : Nat} (hF : FoC T FN O K lc n e0 m fu dp it σ1 σ2) (f1 : FI (NmI T σ1 it 0 m) e0 σ1 τ1) (f2 : FI (NmI T σ1 it 0 m) e0 σ2 τ2) (hb : b ≤ 178000 + (c + 3)) (z1 : EZ t b τ1) (z2 : EZ t b τ2) (y1 : τ1.1 72 = nI (e0 + m)) (y2 : τ2.1 72 = nI (e0 + m)) {N1 N2 : Nat → Int32} (hN1 : QuL n e0 p N1) (hN2 : QuL n e0 p N2) : T2 (fun k => x_GV k (c + 3) 10 4 N1 τ1) (fun k => x_GV k (c + 3) 10 4 N2 τ2) (EQ (178000 + (c + 3)) t w XC σ1 σ2) := by
  have hK := hF.2.2.2.2.2.1
  refine T2_suc (fun k => e_quantify_4 k _ _ _) (fun k => e_quantify_4 k _ _ _) ?_
  refine T2_suc (fun k => e_quantify_5 k _ _ _) (fun k => e_quantify_5 k _ _ _) ?_
  refine T2_ite ⟨fun z => absurd z (EZ_e z1), fun z => absurd z (EZ_e z2)⟩ (fun z _ => absurd z (EZ_e z1)) (fun _ _ => ?_)
  refine T2_suc (fun k => e_quantify_6 k _ _ _) (fun k => e_quantify_6 k _ _ _) ?_
  refine T2_suc (fun k => e_quantify_7 k _ _ _) (fun k => e_quantify_7 k _ _ _) ?_
  refine T2_suc (fun k => e_quantify_3 k _ _ _) (fun k => e_quantify_3 k _ _ _) ?_
  refine T2_ite (c1 := (0 : Int32) = 0) (c2 := (0 : Int32) = 0) Iff.rfl (fun _ _ => ?_) (fun z _ => absurd rfl z)
  exact b_qendZ hF f1 f2 hb z1 z2 ⟨e0 + m, by omega, by omega, y1⟩ ⟨e0 + m, by omega, by omega, y2⟩ hN1 hN2
theorem qu_4 {q w' : Nat} (hE0 : PE T FN c) (hO : 1 ≤ O) (hP : PC T FN O r K lc (c + 5) t w XC σ1) (hF : FoC T FN (O - 1) K lc n e0 m fu dp it σ1 σ2) (hq : QuP (NmI T σ1 it 0 m) n c e0 m t w XC p it σ1 σ2 q) (hw : 60000 ≤ q + w') (hj : w ≤ w') {N1 N2 : Nat → Int32} (hN1 : QuL n e0 p N1) (hN2 : QuL n e0 p N2) (f1 : FI (NmI T σ1 it 0 m) e0 σ1 τ1) (f2 : FI (NmI T σ1 it 0 m) e0 σ2 τ2) (hG : GIt e0 m it τ1 τ2) (hI : EI t w' XC τ1 τ2) : T2 (fun k => x_GV k (c + 3) 10 4 N1 τ1) (fun k => x_GV k (c + 3) 10 4 N2 τ2) (EQ (178000 + (c + 3)) t w XC σ1 σ2) := by
  have ht := PC_t hP
  have hn := hF.1
  have hK := hF.2.2.2.2.2.1
  obtain ⟨e1, e2⟩ := EI_e hI
  refine T2_suc (fun k => e_quantify_4 k _ _ _) (fun k => e_quantify_4 k _ _ _) ?_
  refine T2_suc (fun k => e_quantify_5 k _ _ _) (fun k => e_quantify_5 k _ _ _) ?_
  rw [e1, e2]
  refine T2_ite Iff.rfl (fun _ _ => ?_) (fun z _ => absurd rfl z)
  refine T2_ite (c1 := (0 : Int32) = 0) (c2 := (0 : Int32) = 0) Iff.rfl (fun _ _ => ?_) (fun z _ => absurd rfl z)
  have a1 : (upd N1 100 0) 1 = nI n := hN1.1
  have a2 : (upd N2 100 0) 1 = nI n := hN2.1
  rw [a1, a2]
  refine T2_chk (n_in (by omega) (by omega)) (n_in (by omega) (by omega)) ?_
  rw [n_cl (p := n) (by omega), (FoC_tb hF f1 f2 (a := 6) (by omega) (by omega) (by omega)).1, (FoC_tb hF f1 f2 (a := 6) (by omega) (by omega) (by omega)).2]
  refine T2_od ?_
  refine T2_ob (b_goOn (N := NmI T σ1 it 0 m) (x := 0) hE0 hO hP hF.2.2.2.1.2.2.2.2.1 hK.1 hF.2.2.1 hF.2.2.2.2.2.2.1 hF.2.2.2.2.2.2.2.1 (fun j hj a i z => ⟨j, Nat.zero_le _, hj, z⟩) (by omega) (by omega) (by omega) (Nat.le_refl m) (Or.inl ⟨rfl, hF.2.2.2.2.2.2.1⟩) f1 f2 hG hI (by exact hN1.2.1) (by exact hN2.2.1) (by exact hF.2.2.2.2.2.2.2.2) (by exact hF.2.2.2.2.2.2.2.2) rfl rfl) (fun r1 r2 hr => ?_)
  have h12 := hr.2.2.1
  refine T2_ite ⟨fun z => h12.symm.trans z, fun z => h12.trans z⟩ (fun z z' => ?_) (fun z z' => ?_)
  · refine T2_suc (fun k => e_quantify_6 k _ _ _) (fun k => e_quantify_6 k _ _ _) ?_
    refine T2_suc (fun k => e_quantify_7 k _ _ _) (fun k => e_quantify_7 k _ _ _) ?_
    exact qu_ent ht hF hq hw hj hr hN1 hN2 rfl z.symm z'.symm
  · have y1 : r1.1 = 1 := by
      rcases hr.2.2.2 with ⟨_, _, _, y | y⟩ | y
      · exact y.1
      · exact absurd y.1 z
      · exact absurd y.1 z
    refine T2_suc (fun k => e_quantify_7 k _ _ _) (fun k => e_quantify_7 k _ _ _) ?_
    exact qu_ent ht hF hq hw hj hr hN1 hN2 rfl y1.symm (h12.symm.trans y1).symm
theorem qu_loop {f0 : Nat} (hE0 : PE T FN c) (hE1 : PE T FN (c + 1)) (hO : 1 ≤ O) (W7 : WN T FN f0 0 (O - 1) 14 (K - m) lc (T 7 n)) (hP : PC T FN O r K lc (c + 5) t w XC σ1) (hF : FoC T FN (O - 1) K lc n e0 m fu dp it σ1 σ2) : ∀ q, QuP (NmI T σ1 it 0 m) n c e0 m t w XC p it σ1 σ2 q := by
  have ht := PC_t hP
  have hXC := hP.2.1
  have hd13 := hP.2.2.2.2.1
  have hn := hF.1
  have hK := hF.2.2.2.2.2.1
  have h72 := hF.2.2.2.1.2.2.2.2.1
  intro q
  induction q with
  | zero =>
    intro w' N1 N2 τ1 τ2 hq hj hN1 hN2 n5 o5 f1 f2 hG hI
    have := EI_w hI
    omega
  | succ q ih =>
    intro w' N1 N2 τ1 τ2 hq hj hN1 hN2 n5 o5 f1 f2 hG hI
    have hw6 := EI_w hI
    obtain ⟨e1, e2⟩ := EI_e hI
    have v72 : τ1.1 72 = nI (e0 + m) := hG.1
    have u72 : τ2.1 72 = nI (e0 + m) := (EI_x50 hI).trans v72
    refine T2_suc (fun k => e_quantify_3 k _ _ _) (fun k => e_quantify_3 k _ _ _) ?_
    rw [n5, o5, e1, e2, hN1.1, hN2.1, hN1.2.2, hN2.2.2]
    refine T2_ite Iff.rfl (fun z _ => absurd z (by decide)) (fun _ _ => ?_)
    refine T2_ite Iff.rfl (fun _ _ => ?_) (fun z _ => absurd rfl z)
    refine T2_chk (n_in (by omega) (by omega)) (n_in (by omega) (by omega)) ?_
    rw [n_cl (p := n) (by omega), (FoC_tb hF f1 f2 (a := 7) (by omega) (by omega) (by omega)).1, (FoC_tb hF f1 f2 (a := 7) (by omega) (by omega) (by omega)).2]
    refine T2_od ?_
    have pc : PC T FN (O - 1) 14 (K - m) lc (c + 1) t w' XC τ1 := PC_fi hP h72 (by omega) f1 v72 hO (by omega) (by omega) hw6 (by omega) (by omega) (by omega) (by omega)
    refine T2_ob (b_holds hE1 W7 pc hI rfl rfl) (fun r1 r2 hr => ?_)
    obtain ⟨h12, p1, p2, hr⟩ := hr
    have gg1 : FI (NmI T σ1 it 0 m) e0 σ1 r1.2 := FI_tr f1 (FI_fe p1 v72 (by omega) (by omega))
    have gg2 : FI (NmI T σ1 it 0 m) e0 σ2 r2.2 := FI_tr f2 (FI_fe p2 u72 (by omega) (by omega))
    have hG3 := GIt_fe hG (by omega) p1 p2
    have r72 : r1.2.1 72 = nI (e0 + m) := hG3.1
    have r72' : r2.2.1 72 = nI (e0 + m) := (p2.1 72 (by unfold AlS; omega) (by decide) (by decide) (by decide)).trans u72
    rcases hr with ⟨w2, hw2, hJ⟩ | ⟨z1, z2, z0⟩
    · obtain ⟨q1, q2⟩ := EI_e hJ
      have b4 : T2 (fun k => x_GV k (c + 3) 10 4 N1 r1.2) (fun k => x_GV k (c + 3) 10 4 N2 r2.2) (EQ (178000 + (c + 3)) t w XC σ1 σ2) := by
        exact qu_4 hE0 hO hP hF ih (by omega) (by omega) hN1 hN2 gg1 gg2 hG3 hJ
      refine T2_ite ⟨fun z => h12.symm.trans z, fun z => h12.trans z⟩ (fun _ _ => ?_) (fun _ _ => b4)
      rw [q1, q2]
      refine T2_ite Iff.rfl (fun _ _ => ?_) (fun z _ => absurd rfl z)
      refine T2_suc (fun k => e_quantify_5 k _ _ _) (fun k => e_quantify_5 k _ _ _) ?_
      rw [q1, q2]
      refine T2_ite Iff.rfl (fun _ _ => ?_) (fun z _ => absurd rfl z)
      refine T2_ite (c1 := (1 : Int32) = 0) (c2 := (1 : Int32) = 0) Iff.rfl (fun z _ => absurd z (by decide)) (fun _ _ => ?_)
      refine T2_suc (fun k => e_quantify_6 k _ _ _) (fun k => e_quantify_6 k _ _ _) ?_
      refine T2_suc (fun k => e_quantify_7 k _ _ _) (fun k => e_quantify_7 k _ _ _) ?_
      refine T2_suc (fun k => e_quantify_3 k _ _ _) (fun k => e_quantify_3 k _ _ _) ?_
      refine T2_ite (c1 := (0 : Int32) = 0) (c2 := (0 : Int32) = 0) Iff.rfl (fun _ _ => ?_) (fun z _ => absurd rfl z)
      exact b_qend hF ht (by omega) gg1 gg2 ⟨e0 + m, by omega, by omega, r72⟩ hJ hN1 hN2 rfl
    · have b4 : T2 (fun k => x_GV k (c + 3) 10 4 N1 r1.2) (fun k => x_GV k (c + 3) 10 4 N2 r2.2) (EQ (178000 + (c + 3)) t w XC σ1 σ2) := qu_z4 hF gg1 gg2 (by omega) z1 z2 r72 r72' hN1 hN2
      refine T2_ite ⟨fun z => h12.symm.trans z, fun z => h12.trans z⟩ (fun _ _ => ?_) (fun _ _ => b4)
      exact T2_ite ⟨fun z => absurd z (EZ_e z1), fun z => absurd z (EZ_e z2)⟩ (fun z _ => absurd z (EZ_e z1)) (fun _ _ => b4)
/-- a quantifier -/
theorem b_quant {f0 : Nat} (hE0 : PE T FN c) (hE1 : PE T FN (c + 1)) (hn : (1 ≤ n ∧ n < LNo T % 70001)) (hO : 1 ≤ O) (hm : 1 ≤ m) (hmK : m ≤ K) (W6 : WN T FN f0 4 (O - 1) m K lc (T 6 n)) (W7 : WN T FN f0 0 (O - 1) 14 (K - m) lc (T 7 n)) (hP : PC T FN O r K lc (c + 5) t w XC σ1) (hI : EI t w XC σ1 σ2) {L1 L2 : Nat → Int32} (d1 : L1 1 = nI n) (d2 : L2 1 = nI n) : T2 (fun k => x_GV k (c + 3) 10 0 L1 σ1) (fun k => x_GV k (c + 3) 10 0 L2 σ2) (EQ (178000 + (c + 3)) t w XC σ1 σ2) := by
  obtain ⟨e0, fu, dp, it, hF⟩ := FoC_of hn hm hmK W6 hP hI
  have ht := PC_t hP
  have hw6 := EI_w hI
  have hXC := hP.2.1
  have hK := hF.2.2.2.2.2.1
  have h72 := hF.2.2.2.1.2.2.2.2.1
  have h72' := hF.2.2.2.2.1.1.2.2.2.2.1
  have b2 : ∀ (p : Int32) (N1 N2 : Nat → Int32), N1 1 = nI n → N2 1 = nI n → N1 2 = nI e0 → N2 2 = nI e0 → N1 100 = p → N2 100 = p → T2 (fun k => x_GV k (c + 3) 10 2 N1 σ1) (fun k => x_GV k (c + 3) 10 2 N2 σ2) (EQ (178000 + (c + 3)) t w XC σ1 σ2) := by
    intro p N1 N2 n1 o1 n2 o2 n100 o100
    refine T2_suc (fun k => e_quantify_2 k _ _ _) (fun k => e_quantify_2 k _ _ _) ?_
    rw [n1, o1]
    refine T2_chk (n_in (by omega) (by omega)) (n_in (by omega) (by omega)) ?_
    rw [n_cl (p := n) (by omega), hF.2.1.1 6 _ (by omega) (by omega) (by omega), hF.2.2.1.1 6 _ (by omega) (by omega) (by omega)]
    refine T2_od ?_
    refine T2_ob (b_goOn (N := NmI T σ1 it 0 m) (x := 1) (j0 := 0) (t := t) (w := w) hE0 hO hP h72 hK.1 hF.2.2.1 hm hF.2.2.2.2.2.2.2.1 (fun j hj a i z => ⟨j, Nat.zero_le _, hj, z⟩) (by omega) (Nat.le_refl _) (by omega) (Nat.zero_le _) (Or.inr ⟨rfl, hm⟩) FI_rf FI_rf ⟨h72, fun i hi => absurd hi (Nat.not_lt_zero i)⟩ hI (by exact n2) (by exact o2) (by exact hF.2.2.2.2.2.2.2.2) (by exact hF.2.2.2.2.2.2.2.2) rfl rfl) (fun r1 r2 hr => ?_)
    exact qu_ent (q := 60000) (p := p) ht hF (qu_loop hE0 hE1 hO W7 hP hF 60000) (by omega) (by omega) hr ⟨n1, n2, n100⟩ ⟨o1, o2, o100⟩ rfl rfl rfl
  refine T2_suc (fun k => e_quantify_0 k _ _ _) (fun k => e_quantify_0 k _ _ _) ?_
  rw [d1, d2, h72, h72']
  refine T2_chk (n_in (by omega) (by omega)) (n_in (by omega) (by omega)) ?_
  rw [n_cl (p := n) (by omega), hF.2.1.1 5 _ (by omega) (by omega) (by omega), hF.2.2.1.1 5 _ (by omega) (by omega) (by omega)]
  refine T2_ite Iff.rfl (fun _ _ => b2 1 _ _ d1 d2 rfl rfl rfl rfl) (fun _ _ => ?_)
  refine T2_suc (fun k => e_quantify_1 k _ _ _) (fun k => e_quantify_1 k _ _ _) ?_
  exact b2 0 _ _ d1 d2 rfl rfl rfl rfl
end EQU
end JnS224
section JnS225
/-! Evaluation on both sides (reference): all that begins; EVALUATION WHOLE (made in part by gen225.py). -/
section EVW
variable {T : Nat → Nat → Int32} {FN : Nat → Nat → Prop} {O r K d t u w XC : Nat} {lc : Nat → Prop} {σ σ1 σ2 τ1 τ2 : MS}
theorem bg_1 {k n : Nat} {L : Nat → Int32} (hL : L 1 = nI n) (hn : (1 ≤ n ∧ n < LNo T % 70001)) (h4 : σ.2.2 4 n = 1) : x_GV (k + 1) d 0 1 L σ = x_GV k d 0 2 L σ := by
  rw [e_begins_1, hL, if_pos (n_in (by omega) (by omega)), n_cl (by omega), h4, if_pos rfl]
theorem bg_2 {k n : Nat} {L : Nat → Int32} (hL : L 1 = nI n) (hn : (1 ≤ n ∧ n < LNo T % 70001)) (h4 : σ.2.2 4 n = 2) : x_GV (k + 1) d 0 1 L σ = x_GV k d 0 3 L σ := by
  rw [e_begins_1, hL, if_pos (n_in (by omega) (by omega)), n_cl (by omega), h4, if_neg (by decide), if_pos rfl]
theorem bg_3 {k n : Nat} {L : Nat → Int32} (hL : L 1 = nI n) (hn : (1 ≤ n ∧ n < LNo T % 70001)) (h4 : σ.2.2 4 n = 3) : x_GV (k + 1) d 0 1 L σ = x_GV k d 0 4 L σ := by
  rw [e_begins_1, hL, if_pos (n_in (by omega) (by omega)), n_cl (by omega), h4, if_neg (by decide), if_neg (by decide), if_pos rfl]
theorem bg_4 {k n : Nat} {L : Nat → Int32} (hL : L 1 = nI n) (hn : (1 ≤ n ∧ n < LNo T % 70001)) (h4 : σ.2.2 4 n = 4) : x_GV (k + 1) d 0 1 L σ = x_GV k d 0 5 L σ := by
  rw [e_begins_1, hL, if_pos (n_in (by omega) (by omega)), n_cl (by omega), h4, if_neg (by decide), if_neg (by decide), if_neg (by decide), if_pos rfl]
theorem bg_5 {k n : Nat} {L : Nat → Int32} (hL : L 1 = nI n) (hn : (1 ≤ n ∧ n < LNo T % 70001)) (h4 : σ.2.2 4 n = 5) : x_GV (k + 1) d 0 1 L σ = x_GV k d 0 6 L σ := by
  rw [e_begins_1, hL, if_pos (n_in (by omega) (by omega)), n_cl (by omega), h4, if_neg (by decide), if_neg (by decide), if_neg (by decide), if_neg (by decide), if_pos rfl]
theorem bg_6 {k n : Nat} {L : Nat → Int32} (hL : L 1 = nI n) (hn : (1 ≤ n ∧ n < LNo T % 70001)) (h4 : σ.2.2 4 n = 6) : x_GV (k + 1) d 0 1 L σ = x_GV k d 0 7 L σ := by
  rw [e_begins_1, hL, if_pos (n_in (by omega) (by omega)), n_cl (by omega), h4, if_neg (by decide), if_neg (by decide), if_neg (by decide), if_neg (by decide), if_neg (by decide), if_pos rfl]
theorem bg_7 {k n : Nat} {L : Nat → Int32} (hL : L 1 = nI n) (hn : (1 ≤ n ∧ n < LNo T % 70001)) (h4 : σ.2.2 4 n = 7) : x_GV (k + 1) d 0 1 L σ = x_GV k d 0 8 L σ := by
  rw [e_begins_1, hL, if_pos (n_in (by omega) (by omega)), n_cl (by omega), h4, if_neg (by decide), if_neg (by decide), if_neg (by decide), if_neg (by decide), if_neg (by decide), if_neg (by decide), if_pos rfl]
theorem bg_8 {k n : Nat} {L : Nat → Int32} (hL : L 1 = nI n) (hn : (1 ≤ n ∧ n < LNo T % 70001)) (h4 : σ.2.2 4 n = 8) : x_GV (k + 1) d 0 1 L σ = x_GV k d 0 9 L σ := by
  rw [e_begins_1, hL, if_pos (n_in (by omega) (by omega)), n_cl (by omega), h4, if_neg (by decide), if_neg (by decide), if_neg (by decide), if_neg (by decide), if_neg (by decide), if_neg (by decide), if_neg (by decide), if_pos rfl]
theorem bg_9 {k n : Nat} {L : Nat → Int32} (hL : L 1 = nI n) (hn : (1 ≤ n ∧ n < LNo T % 70001)) (h4 : σ.2.2 4 n = 9) : x_GV (k + 1) d 0 1 L σ = x_GV k d 0 16 L σ := by
  rw [e_begins_1, hL, if_pos (n_in (by omega) (by omega)), n_cl (by omega), h4, if_neg (by decide), if_neg (by decide), if_neg (by decide), if_neg (by decide), if_neg (by decide), if_neg (by decide), if_neg (by decide), if_neg (by decide), if_pos rfl]
theorem bg_10 {k n : Nat} {L : Nat → Int32} (hL : L 1 = nI n) (hn : (1 ≤ n ∧ n < LNo T % 70001)) (h4 : σ.2.2 4 n = 10) : x_GV (k + 1) d 0 1 L σ = x_GV k d 0 10 L σ := by
  rw [e_begins_1, hL, if_pos (n_in (by omega) (by omega)), n_cl (by omega), h4, if_neg (by decide), if_neg (by decide), if_neg (by decide), if_neg (by decide), if_neg (by decide), if_neg (by decide), if_neg (by decide), if_neg (by decide), if_neg (by decide), if_pos rfl]
theorem bg_11 {k n : Nat} {L : Nat → Int32} (hL : L 1 = nI n) (hn : (1 ≤ n ∧ n < LNo T % 70001)) (h4 : σ.2.2 4 n = 11) : x_GV (k + 1) d 0 1 L σ = x_GV k d 0 11 L σ := by
  rw [e_begins_1, hL, if_pos (n_in (by omega) (by omega)), n_cl (by omega), h4, if_neg (by decide), if_neg (by decide), if_neg (by decide), if_neg (by decide), if_neg (by decide), if_neg (by decide), if_neg (by decide), if_neg (by decide), if_neg (by decide), if_neg (by decide), if_pos rfl]
theorem bg_12 {k n : Nat} {L : Nat → Int32} (hL : L 1 = nI n) (hn : (1 ≤ n ∧ n < LNo T % 70001)) (h4 : σ.2.2 4 n = 12) : x_GV (k + 1) d 0 1 L σ = x_GV k d 0 15 L σ := by
  rw [e_begins_1, hL, if_pos (n_in (by omega) (by omega)), n_cl (by omega), h4, if_neg (by decide), if_neg (by decide), if_neg (by decide), if_neg (by decide), if_neg (by decide), if_neg (by decide), if_neg (by decide), if_neg (by decide), if_neg (by decide), if_neg (by decide), if_neg (by decide), if_pos rfl]
theorem bg_13 {k n : Nat} {L : Nat → Int32} (hL : L 1 = nI n) (hn : (1 ≤ n ∧ n < LNo T % 70001)) (h4 : σ.2.2 4 n = 13) : x_GV (k + 1) d 0 1 L σ = x_GV k d 0 12 L σ := by
  rw [e_begins_1, hL, if_pos (n_in (by omega) (by omega)), n_cl (by omega), h4, if_neg (by decide), if_neg (by decide), if_neg (by decide), if_neg (by decide), if_neg (by decide), if_neg (by decide), if_neg (by decide), if_neg (by decide), if_neg (by decide), if_neg (by decide), if_neg (by decide), if_neg (by decide), if_pos rfl]
theorem bg_14 {k n : Nat} {L : Nat → Int32} (hL : L 1 = nI n) (hn : (1 ≤ n ∧ n < LNo T % 70001)) (h4 : σ.2.2 4 n = 14) : x_GV (k + 1) d 0 1 L σ = x_GV k d 0 13 L σ := by
  rw [e_begins_1, hL, if_pos (n_in (by omega) (by omega)), n_cl (by omega), h4, if_neg (by decide), if_neg (by decide), if_neg (by decide), if_neg (by decide), if_neg (by decide), if_neg (by decide), if_neg (by decide), if_neg (by decide), if_neg (by decide), if_neg (by decide), if_neg (by decide), if_neg (by decide), if_neg (by decide), if_pos rfl]
theorem bg_15 {k n : Nat} {L : Nat → Int32} (hL : L 1 = nI n) (hn : (1 ≤ n ∧ n < LNo T % 70001)) (h4 : σ.2.2 4 n = 15) : x_GV (k + 1) d 0 1 L σ = x_GV k d 0 14 L σ := by
  rw [e_begins_1, hL, if_pos (n_in (by omega) (by omega)), n_cl (by omega), h4, if_neg (by decide), if_neg (by decide), if_neg (by decide), if_neg (by decide), if_neg (by decide), if_neg (by decide), if_neg (by decide), if_neg (by decide), if_neg (by decide), if_neg (by decide), if_neg (by decide), if_neg (by decide), if_neg (by decide), if_neg (by decide), if_pos rfl]
theorem bg_17 {k n : Nat} {L : Nat → Int32} (hL : L 1 = nI n) (hn : (1 ≤ n ∧ n < LNo T % 70001)) (h4 : σ.2.2 4 n = 17) : x_GV (k + 1) d 0 1 L σ = x_GV k d 0 16 L σ := by
  rw [e_begins_1, hL, if_pos (n_in (by omega) (by omega)), n_cl (by omega), h4, if_neg (by decide), if_neg (by decide), if_neg (by decide), if_neg (by decide), if_neg (by decide), if_neg (by decide), if_neg (by decide), if_neg (by decide), if_neg (by decide), if_neg (by decide), if_neg (by decide), if_neg (by decide), if_neg (by decide), if_neg (by decide), if_neg (by decide)]
theorem bg_18 {k n : Nat} {L : Nat → Int32} (hL : L 1 = nI n) (hn : (1 ≤ n ∧ n < LNo T % 70001)) (h4 : σ.2.2 4 n = 18) : x_GV (k + 1) d 0 1 L σ = x_GV k d 0 16 L σ := by
  rw [e_begins_1, hL, if_pos (n_in (by omega) (by omega)), n_cl (by omega), h4, if_neg (by decide), if_neg (by decide), if_neg (by decide), if_neg (by decide), if_neg (by decide), if_neg (by decide), if_neg (by decide), if_neg (by decide), if_neg (by decide), if_neg (by decide), if_neg (by decide), if_neg (by decide), if_neg (by decide), if_neg (by decide), if_neg (by decide)]
theorem bg_19 {k n : Nat} {L : Nat → Int32} (hL : L 1 = nI n) (hn : (1 ≤ n ∧ n < LNo T % 70001)) (h4 : σ.2.2 4 n = 19) : x_GV (k + 1) d 0 1 L σ = x_GV k d 0 16 L σ := by
  rw [e_begins_1, hL, if_pos (n_in (by omega) (by omega)), n_cl (by omega), h4, if_neg (by decide), if_neg (by decide), if_neg (by decide), if_neg (by decide), if_neg (by decide), if_neg (by decide), if_neg (by decide), if_neg (by decide), if_neg (by decide), if_neg (by decide), if_neg (by decide), if_neg (by decide), if_neg (by decide), if_neg (by decide), if_neg (by decide)]
theorem bg_20 {k n : Nat} {L : Nat → Int32} (hL : L 1 = nI n) (hn : (1 ≤ n ∧ n < LNo T % 70001)) (h4 : σ.2.2 4 n = 20) : x_GV (k + 1) d 0 1 L σ = x_GV k d 0 16 L σ := by
  rw [e_begins_1, hL, if_pos (n_in (by omega) (by omega)), n_cl (by omega), h4, if_neg (by decide), if_neg (by decide), if_neg (by decide), if_neg (by decide), if_neg (by decide), if_neg (by decide), if_neg (by decide), if_neg (by decide), if_neg (by decide), if_neg (by decide), if_neg (by decide), if_neg (by decide), if_neg (by decide), if_neg (by decide), if_neg (by decide)]
theorem PEb_of (hE : ∀ e, e < d → PE T FN e) : PEb T FN d := by
  intro f O r K lc x t w XC σ1 σ2 L1 L2 hW hP hI d1 d2
  cases f with
  | zero => exact hW.elim
  | succ f =>
  have hW : _ := hW
  unfold WN at hW
  rcases hW with ⟨z, _⟩ | ⟨z, _⟩ | ⟨_, n, xn, hn, hor⟩ | ⟨z, _⟩ | ⟨z, _⟩ | ⟨z, _⟩ | ⟨z, _⟩
  case inl => exact absurd z (by decide)
  case inr.inl => exact absurd z (by decide)
  case inr.inr.inr.inl => exact absurd z (by decide)
  case inr.inr.inr.inr.inl => exact absurd z (by decide)
  case inr.inr.inr.inr.inr.inl => exact absurd z (by decide)
  case inr.inr.inr.inr.inr.inr => exact absurd z (by decide)
  have ht := PC_t hP
  have hS1 := hP.1
  have hS2 := EI_ST hI hS1
  have d1 := d1.trans xn
  have d2 := d2.trans xn
  have t1 : ∀ v, T 4 n = v → σ1.2.2 4 n = v := fun v h => by rw [hS1.1 4 _ (by omega) (by omega) (by omega)]; exact h
  have t2 : ∀ v, T 4 n = v → σ2.2.2 4 n = v := fun v h => by rw [hS2.1 4 _ (by omega) (by omega) (by omega)]; exact h
  have hd3 : 3 ≤ d ∧ (1 ≤ O → 18 ≤ d) := by
    obtain ⟨_, _, _, _, _, h4, _, fu, dp, e, _, _, _, hd⟩ := hP
    exact ⟨by omega, fun _ => by omega⟩
  obtain ⟨e1, e2⟩ := EI_e hI
  refine T2_suc (fun k => e_begins_0 k _ _ _) (fun k => e_begins_0 k _ _ _) ?_
  rw [e1, e2]
  refine T2_ite Iff.rfl (fun _ _ => ?_) (fun z _ => absurd (by decide : (0 : Int32) ≤ 0) z)
  -- one operand
  have one : ∀ (O' r' : Nat), ((O' = O ∧ r' + 2 ≤ r) ∨ (O' < O ∧ r' ≤ 14)) → WN T FN f 0 O' r' K lc (T 6 n) → T2 (fun k => x_GV k d 0 16 L1 σ1) (fun k => x_GV k d 0 16 L2 σ2) (EQ (178000 + d) t w XC σ1 σ2) := by
    intro O' r' lo W6
    obtain ⟨e, rfl⟩ : ∃ e, d = e + 1 := ⟨d - 1, by omega⟩
    exact b_one (hE e (by omega)) hn lo W6 hP hI d1 d2
  rcases hor with ⟨x4, p, q, x5, x6, hq, hpq, hc⟩ | ⟨x4, p, q, x5, x6, hq, hpq⟩ | x4 | ⟨x4, s, x6, hs, x5⟩ | ⟨x4, hO, fn, m, c, x5, hFN, hm, x8, hcO, hc, W6⟩ | ⟨x4, _, O', r', lo, W6⟩ | ⟨x4, hO, m, hm, W6⟩ | ⟨x4, hO, W6, W7, W8⟩ | ⟨x4, hO, m, hm, hmK, W6, W7, W8⟩ | ⟨x4, hO, m, hm, hmK, W6, W7⟩ | ⟨x4, hO, W6⟩
  · refine T2_suc (fun k => bg_1 d1 hn (t1 _ x4)) (fun k => bg_1 d2 hn (t2 _ x4)) ?_
    exact b_num hP hI hn x5 x6 hq hpq hc (by omega) d1 d2
  · refine T2_suc (fun k => bg_2 d1 hn (t1 _ x4)) (fun k => bg_2 d2 hn (t2 _ x4)) ?_
    exact b_str hP hI hn x5 x6 hq hpq.1 hpq.2 (by omega) d1 d2
  · rcases x4 with x4 | x4 | x4 | ⟨x4, _⟩
    · refine T2_suc (fun k => bg_3 d1 hn (t1 _ x4)) (fun k => bg_3 d2 hn (t2 _ x4)) ?_
      refine T2_suc (fun k => e_begins_4 k _ _ _) (fun k => e_begins_4 k _ _ _) ?_
      refine T2_ob (E_pc (c := 0) (by decide) hI (by omega) rfl rfl) (fun s1 s2 hs => ?_)
      exact T2_some ⟨hs.1, hs.2.1, Or.inl ⟨w, Nat.le_refl _, hs.2.2⟩⟩
    · refine T2_suc (fun k => bg_4 d1 hn (t1 _ x4)) (fun k => bg_4 d2 hn (t2 _ x4)) ?_
      refine T2_suc (fun k => e_begins_5 k _ _ _) (fun k => e_begins_5 k _ _ _) ?_
      refine T2_ob (E_pc (c := 2) (by decide) hI (by omega) rfl rfl) (fun s1 s2 hs => ?_)
      exact T2_some ⟨hs.1, hs.2.1, Or.inl ⟨w, Nat.le_refl _, hs.2.2⟩⟩
    · refine T2_suc (fun k => bg_5 d1 hn (t1 _ x4)) (fun k => bg_5 d2 hn (t2 _ x4)) ?_
      refine T2_suc (fun k => e_begins_6 k _ _ _) (fun k => e_begins_6 k _ _ _) ?_
      refine T2_ob (E_pc (c := 1) (by decide) hI (by omega) rfl rfl) (fun s1 s2 hs => ?_)
      exact T2_some ⟨hs.1, hs.2.1, Or.inl ⟨w, Nat.le_refl _, hs.2.2⟩⟩
    · refine T2_suc (fun k => bg_6 d1 hn (t1 _ x4)) (fun k => bg_6 d2 hn (t2 _ x4)) ?_
      exact b_new hP hI (by omega)
  · refine T2_suc (fun k => bg_7 d1 hn (t1 _ x4)) (fun k => bg_7 d2 hn (t2 _ x4)) ?_
    exact b_var hP hI hn x6 hs x5 d1 d2
  · obtain ⟨e, rfl⟩ : ∃ e, d = e + 2 := ⟨d - 2, by have := hd3.2 hO; omega⟩
    refine T2_suc (fun k => bg_8 d1 hn (t1 _ x4)) (fun k => bg_8 d2 hn (t2 _ x4)) ?_
    refine T2_suc (fun k => e_begins_9 k _ _ _) (fun k => e_begins_9 k _ _ _) ?_
    refine T2_od ?_
    refine T2_ob (b_call (hE e (by omega)) hn hO x5 hFN x8 hcO hc W6 hP hI (by exact d1) (by exact d2)) (fun r1 r2 hr => ?_)
    exact T2_some (EQ_mo hr (by omega))
  · rcases x4 with x4 | x4 | x4 | x4 | x4
    · exact T2_suc (fun k => bg_9 d1 hn (t1 _ x4)) (fun k => bg_9 d2 hn (t2 _ x4)) (one O' r' lo W6)
    · exact T2_suc (fun k => bg_17 d1 hn (t1 _ x4)) (fun k => bg_17 d2 hn (t2 _ x4)) (one O' r' lo W6)
    · exact T2_suc (fun k => bg_18 d1 hn (t1 _ x4)) (fun k => bg_18 d2 hn (t2 _ x4)) (one O' r' lo W6)
    · exact T2_suc (fun k => bg_19 d1 hn (t1 _ x4)) (fun k => bg_19 d2 hn (t2 _ x4)) (one O' r' lo W6)
    · exact T2_suc (fun k => bg_20 d1 hn (t1 _ x4)) (fun k => bg_20 d2 hn (t2 _ x4)) (one O' r' lo W6)
  · obtain ⟨e, rfl⟩ : ∃ e, d = e + 2 := ⟨d - 2, by have := hd3.2 hO; omega⟩
    rcases x4 with x4 | x4
    · refine T2_suc (fun k => bg_10 d1 hn (t1 _ x4)) (fun k => bg_10 d2 hn (t2 _ x4)) ?_
      refine T2_suc (fun k => e_begins_10 k _ _ _) (fun k => e_begins_10 k _ _ _) ?_
      refine T2_od ?_
      refine T2_ob (b_set (hE e (by omega)) hn hO W6 hP hI (by exact d1) (by exact d2)) (fun r1 r2 hr => ?_)
      exact T2_some (EQ_mo hr (by omega))
    · refine T2_suc (fun k => bg_11 d1 hn (t1 _ x4)) (fun k => bg_11 d2 hn (t2 _ x4)) ?_
      refine T2_suc (fun k => e_begins_11 k _ _ _) (fun k => e_begins_11 k _ _ _) ?_
      refine T2_od ?_
      refine T2_ob (b_tup (hE e (by omega)) hn hO hm W6 hP hI (by exact d1) (by exact d2)) (fun r1 r2 hr => ?_)
      exact T2_some (EQ_mo hr (by omega))
  · obtain ⟨e, rfl⟩ : ∃ e, d = e + 2 := ⟨d - 2, by have := hd3.2 hO; omega⟩
    refine T2_suc (fun k => bg_12 d1 hn (t1 _ x4)) (fun k => bg_12 d2 hn (t2 _ x4)) ?_
    refine T2_suc (fun k => e_begins_15 k _ _ _) (fun k => e_begins_15 k _ _ _) ?_
    refine T2_od ?_
    refine T2_ob (b_bounds SGN_t (hE e (by omega)) hn hO W6 W7 W8 hP hI (by exact d1) (by exact d2)) (fun r1 r2 hr => ?_)
    exact T2_some (EQ_mo hr (by omega))
  · obtain ⟨c, rfl⟩ : ∃ c, d = c + 4 := ⟨d - 4, by have := hd3.2 hO; omega⟩
    refine T2_suc (fun k => bg_13 d1 hn (t1 _ x4)) (fun k => bg_13 d2 hn (t2 _ x4)) ?_
    refine T2_suc (fun k => e_begins_12 k _ _ _) (fun k => e_begins_12 k _ _ _) ?_
    refine T2_od ?_
    refine T2_ob (b_former (hE c (by omega)) (hE (c + 1) (by omega)) (hE (c + 2) (by omega)) hn hO hm hmK W6 W7 W8 hP hI (by exact d1) (by exact d2)) (fun r1 r2 hr => ?_)
    exact T2_some (EQ_mo hr (by omega))
  · obtain ⟨c, rfl⟩ : ∃ c, d = c + 4 := ⟨d - 4, by have := hd3.2 hO; omega⟩
    refine T2_suc (fun k => bg_14 d1 hn (t1 _ x4)) (fun k => bg_14 d2 hn (t2 _ x4)) ?_
    refine T2_suc (fun k => e_begins_13 k _ _ _) (fun k => e_begins_13 k _ _ _) ?_
    refine T2_od ?_
    refine T2_ob (b_quant (hE c (by omega)) (hE (c + 1) (by omega)) hn hO hm hmK W6 W7 hP hI (by exact d1) (by exact d2)) (fun r1 r2 hr => ?_)
    exact T2_some (EQ_mo hr (by omega))
  · obtain ⟨e, rfl⟩ : ∃ e, d = e + 2 := ⟨d - 2, by have := hd3.2 hO; omega⟩
    refine T2_suc (fun k => bg_15 d1 hn (t1 _ x4)) (fun k => bg_15 d2 hn (t2 _ x4)) ?_
    refine T2_suc (fun k => e_begins_14 k _ _ _) (fun k => e_begins_14 k _ _ _) ?_
    refine T2_od ?_
    refine T2_ob (b_choose (fun i hi => hE i (by omega)) hn hO W6 hP hI (by exact d1) (by exact d2)) (fun r1 r2 hr => ?_)
    exact T2_some (EQ_mo hr (by omega))
/-- EVALUATION: both sides end, alike -/
theorem PE_all : ∀ d, PE T FN d := by
  intro d
  induction d using Nat.strongRecOn with
  | ind d ih =>
    cases d with
    | zero =>
      intro f O r K lc x t w XC σ1 σ2 L1 L2 hW hP
      obtain ⟨_, _, _, _, _, h4, _, fu, dp, e, _, _, _, hd⟩ := hP
      omega
    | succ d => exact PE_of (PEb_of (fun e he => ih e (by omega))) (PEg_of (fun e he => ih e (by omega)))
end EVW
end JnS225
section JnS226
/-! Trees of nodes: larger bounds, chains, lists. -/
/-- a place further out, or the same with a higher rank -/
def Lx (O r O' r' : Nat) : Prop := (O = O' ∧ r ≤ r') ∨ (O < O' ∧ r ≤ 14 ∧ 4 ≤ r')
section WTR
variable {T : Nat → Nat → Int32} {FN : Nat → Nat → Prop} {lc : Nat → Prop}
theorem Lx_rf {O r : Nat} : Lx O r O r := Or.inl ⟨rfl, Nat.le_refl _⟩
theorem Lx_1 {O O' : Nat} (h : O ≤ O') : Lx (O - 1) 14 (O' - 1) 14 := by unfold Lx; omega
theorem Lx_lo {O r O' r' O1 r1 : Nat} (h : Lx O r O' r') (lo : (O1 = O ∧ r1 + 2 ≤ r) ∨ (O1 < O ∧ r1 ≤ 14)) : (O1 = O' ∧ r1 + 2 ≤ r') ∨ (O1 < O' ∧ r1 ≤ 14) := by unfold Lx at h; omega
theorem WN_mo : ∀ (f nt O r K : Nat) (x : Int32) (f' O' r' K' : Nat), f ≤ f' → K ≤ K' → (nt ≤ 2 → Lx O r O' r') → (3 ≤ nt → O ≤ O' ∧ r = r') → WN T FN f nt O r K lc x → WN T FN f' nt O' r' K' lc x := by
  intro f
  induction f with
  | zero => intro nt O r K x f' O' r' K' _ _ _ _ h; exact h.elim
  | succ f ih =>
    intro nt O r K x f' O' r' K' hf hK h2 h3 h
    obtain ⟨f', rfl⟩ : ∃ g, f' = g + 1 := ⟨f' - 1, by omega⟩
    have hf : f ≤ f' := by omega
    -- what is evaluated within: the same place
    have same : ∀ (O1 r1 : Nat) (y : Int32), WN T FN f 0 O1 r1 K lc y → WN T FN f' 0 O1 r1 K' lc y := fun O1 r1 y w => ih 0 O1 r1 K y f' O1 r1 K' hf hK (fun _ => Lx_rf) (fun z => by omega) w
    have inn : ∀ (O1 O2 K1 K2 : Nat) (y : Int32), O1 ≤ O2 → K1 ≤ K2 → WN T FN f 0 O1 14 K1 lc y → WN T FN f' 0 O2 14 K2 lc y := fun O1 O2 K1 K2 y ho hk w => ih 0 O1 14 K1 y f' O2 14 K2 hf hk (fun _ => by unfold Lx; omega) (fun z => by omega) w
    have lst : ∀ (nt O1 O2 m K1 K2 : Nat) (y : Int32), 3 ≤ nt → O1 ≤ O2 → K1 ≤ K2 → WN T FN f nt O1 m K1 lc y → WN T FN f' nt O2 m K2 lc y := fun nt O1 O2 m K1 K2 y hn ho hk w => ih nt O1 m K1 y f' O2 m K2 hf hk (fun z => by omega) (fun _ => ⟨ho, rfl⟩) w
    unfold WN at h ⊢
    rcases h with ⟨e, h4, n, k, ch, a1, a2, a3, a4, a5, a6, a7⟩ | ⟨e, n, a1, a2, hor⟩ | ⟨e, n, a1, a2, hor⟩ | ⟨e, hor⟩ | ⟨e, hor⟩ | ⟨e, n, a1, a2, a3, hor⟩ | ⟨e, hor⟩
    · have hx := h2 (by omega)
      refine Or.inl ⟨e, by unfold Lx at hx; omega, n, k, ch, a1, a2, a3, a4, a5, fun i p1 p2 => ⟨(a6 i p1 p2).1, ?_⟩, ?_⟩
      · exact ih 2 O r K _ f' O' r' K' hf hK (fun _ => hx) (fun z => by omega) (a6 i p1 p2).2
      · exact ih 1 O r K _ f' O' r' K' hf hK (fun _ => hx) (fun z => by omega) a7
    · have hx := h2 (by omega)
      refine Or.inr (Or.inl ⟨e, n, a1, a2, hor.imp id (fun z => ⟨z.1, ?_, fun y => ?_⟩)⟩)
      · obtain ⟨O1, r1, lo, w⟩ := z.2.1
        exact ⟨O1, r1, Lx_lo hx lo, same _ _ _ w⟩
      · obtain ⟨O1, r1, lo, w⟩ := z.2.2 y
        exact ⟨O1, r1, Lx_lo hx lo, same _ _ _ w⟩
    · have hx := h2 (by omega)
      have hO : O ≤ O' := by unfold Lx at hx; omega
      refine Or.inr (Or.inr (Or.inl ⟨e, n, a1, a2, ?_⟩))
      rcases hor with h | h | h | h | ⟨x4, h1, fn, m, c, x5, hF, hm, x8, hc1, hc2, w⟩ | ⟨x4, xr, O1, r1, lo, w⟩ | ⟨x4, h1, m, hm, w⟩ | ⟨x4, h1, w6, w7, w8⟩ | ⟨x4, h1, m, hm, hmK, w6, w7, w8⟩ | ⟨x4, h1, m, hm, hmK, w6, w7⟩ | ⟨x4, h1, w⟩
      · exact Or.inl h
      · exact Or.inr (Or.inl h)
      · exact Or.inr (Or.inr (Or.inl h))
      · exact Or.inr (Or.inr (Or.inr (Or.inl h)))
      · exact Or.inr (Or.inr (Or.inr (Or.inr (Or.inl ⟨x4, by omega, fn, m, c, x5, hF, hm, x8, by omega, hc2, lst 3 _ _ m _ _ _ (by omega) (by omega) hK w⟩))))
      · exact Or.inr (Or.inr (Or.inr (Or.inr (Or.inr (Or.inl ⟨x4, xr, O1, r1, Lx_lo hx lo, same _ _ _ w⟩)))))
      · exact Or.inr (Or.inr (Or.inr (Or.inr (Or.inr (Or.inr (Or.inl ⟨x4, by omega, m, hm, lst 3 _ _ m _ _ _ (by omega) (by omega) hK w⟩))))))
      · exact Or.inr (Or.inr (Or.inr (Or.inr (Or.inr (Or.inr (Or.inr (Or.inl ⟨x4, by omega, inn _ _ _ _ _ (by omega) hK w6, w7.imp id (fun y => inn _ _ _ _ _ (by omega) hK y), inn _ _ _ _ _ (by omega) hK w8⟩)))))))
      · exact Or.inr (Or.inr (Or.inr (Or.inr (Or.inr (Or.inr (Or.inr (Or.inr (Or.inl ⟨x4, by omega, m, hm, by omega, lst 4 _ _ m _ _ _ (by omega) (by omega) hK w6, w7.imp id (fun y => inn _ _ _ _ _ (by omega) (by omega) y), inn _ _ _ _ _ (by omega) (by omega) w8⟩))))))))
      · exact Or.inr (Or.inr (Or.inr (Or.inr (Or.inr (Or.inr (Or.inr (Or.inr (Or.inr (Or.inl ⟨x4, by omega, m, hm, by omega, lst 4 _ _ m _ _ _ (by omega) (by omega) hK w6, inn _ _ _ _ _ (by omega) (by omega) w7⟩)))))))))
      · exact Or.inr (Or.inr (Or.inr (Or.inr (Or.inr (Or.inr (Or.inr (Or.inr (Or.inr (Or.inr ⟨x4, by omega, lst 5 _ _ 0 _ _ _ (by omega) (by omega) hK w⟩)))))))))
    · obtain ⟨hO, hr⟩ := h3 (by omega)
      refine Or.inr (Or.inr (Or.inr (Or.inl ⟨e, hor.imp (fun z => ⟨hr ▸ z.1, z.2⟩) (fun z => ?_)⟩)))
      obtain ⟨m, n, rm, a1, a2, w0, w9⟩ := z
      exact ⟨m, n, hr ▸ rm, a1, a2, inn _ _ _ _ _ hO hK w0, lst 3 _ _ m _ _ _ (by omega) hO hK w9⟩
    · obtain ⟨hO, hr⟩ := h3 (by omega)
      refine Or.inr (Or.inr (Or.inr (Or.inr (Or.inl ⟨e, hor.imp (fun z => ⟨hr ▸ z.1, z.2⟩) (fun z => ?_)⟩))))
      obtain ⟨m, n, q, rm, a1, a2, k1, hq, w6, w7, w9⟩ := z
      exact ⟨m, n, q, hr ▸ rm, a1, a2, by omega, hq, lst 6 _ _ q _ _ _ (by omega) hO hK w6, inn _ _ _ _ _ hO hK w7, lst 4 _ _ m _ _ _ (by omega) hO (by omega) w9⟩
    · obtain ⟨hO, hr⟩ := h3 (by omega)
      exact Or.inr (Or.inr (Or.inr (Or.inr (Or.inr (Or.inl ⟨e, n, a1, a2, inn _ _ _ _ _ hO hK a3, hor.imp id (fun z => ⟨inn _ _ _ _ _ hO hK z.1, lst 5 _ _ 0 _ _ _ (by omega) hO hK z.2⟩)⟩)))))
    · obtain ⟨hO, hr⟩ := h3 (by omega)
      refine Or.inr (Or.inr (Or.inr (Or.inr (Or.inr (Or.inr ⟨e, hor.imp (fun z => ⟨hr ▸ z.1, z.2⟩) (fun z => ?_)⟩)))))
      obtain ⟨m, n, s, rm, a1, a2, x6, hs, x5, w9⟩ := z
      exact ⟨m, n, s, hr ▸ rm, a1, a2, x6, hs, x5, lst 6 _ _ m _ _ _ (by omega) hO hK w9⟩
/-- a tree that is evaluated, with some fuel -/
def WX (T : Nat → Nat → Int32) (FN : Nat → Nat → Prop) (O r K : Nat) (lc : Nat → Prop) (x : Int32) : Prop := ∃ F, WN T FN F 0 O r K lc x
theorem WX_mo {O r K O' r' K' : Nat} {x : Int32} (h : WX T FN O r K lc x) (hK : K ≤ K') (hx : Lx O r O' r') : WX T FN O' r' K' lc x := by
  obtain ⟨F, h⟩ := h
  exact ⟨F, WN_mo F 0 O r K x F O' r' K' (Nat.le_refl _) hK (fun _ => hx) (fun z => by omega) h⟩
theorem WN_f {f f' nt O r K : Nat} {x : Int32} (h : WN T FN f nt O r K lc x) (hf : f ≤ f') : WN T FN f' nt O r K lc x := WN_mo f nt O r K x f' O r K hf (Nat.le_refl _) (fun _ => Lx_rf) (fun _ => ⟨Nat.le_refl _, rfl⟩) h
/-- one node alone -/
theorem WX_1 {f O r K n : Nat} (h4 : 4 ≤ r) (hn : (1 ≤ n ∧ n < LNo T % 70001)) (ho : ¬ Ov (T 4 n)) (h : WN T FN f 1 O r K lc (nI n)) : WX T FN O r K lc (nI n) := by
  refine ⟨f + 1, ?_⟩
  unfold WN
  exact Or.inl ⟨rfl, h4, n, 0, fun _ => n, rfl, rfl, fun _ _ => hn, fun i hi => by omega, ho, fun i h1 h2 => by omega, h⟩
/-- one that goes on behind it -/
theorem WX_ov {f O r K e N : Nat} (he : (1 ≤ e ∧ e < LNo T % 70001)) (hN : (1 ≤ N ∧ N < LNo T % 70001)) (h : WX T FN O r K lc (nI e)) (h6 : T 6 N = nI e) (h9 : T 9 e = nI N) (ho : Ov (T 4 N)) (h2 : WN T FN f 2 O r K lc (nI N)) : WX T FN O r K lc (nI N) := by
  obtain ⟨F, h⟩ := h
  cases F with
  | zero => exact h.elim
  | succ F =>
    unfold WN at h
    rcases h with ⟨_, h4, n, k, ch, a1, a2, a3, a4, a5, a6, a7⟩ | ⟨z, _⟩ | ⟨z, _⟩ | ⟨z, _⟩ | ⟨z, _⟩ | ⟨z, _⟩ | ⟨z, _⟩
    case inr.inl => exact absurd z (by decide)
    case inr.inr.inl => exact absurd z (by decide)
    case inr.inr.inr.inl => exact absurd z (by decide)
    case inr.inr.inr.inr.inl => exact absurd z (by decide)
    case inr.inr.inr.inr.inr.inl => exact absurd z (by decide)
    case inr.inr.inr.inr.inr.inr => exact absurd z (by decide)
    have hn : (1 ≤ n ∧ n < LNo T % 70001) := by rw [← a2]; exact a3 k (Nat.le_refl _)
    have en : e = n := (n_eq (by omega) (by omega)).mp a1
    refine ⟨max F f + 1, ?_⟩
    unfold WN
    have c1 : ∀ i, i ≤ k → (fun i => if i ≤ k then ch i else N) i = ch i := fun i hi => if_pos hi
    have c2 : (fun i => if i ≤ k then ch i else N) (k + 1) = N := if_neg (by omega)
    refine Or.inl ⟨rfl, h4, N, k + 1, fun i => if i ≤ k then ch i else N, rfl, c2, fun i hi => ?_, fun i hi => ?_, ?_, fun i h1 h2' => ?_, ?_⟩
    · by_cases c : i ≤ k
      · rw [c1 i c]; exact a3 i c
      · rw [show i = k + 1 by omega, c2]; exact hN
    · by_cases c : i < k
      · rw [c1 i (by omega), c1 (i + 1) (by omega)]; exact a4 i c
      · rw [show i = k by omega, c1 k (Nat.le_refl _), c2, a2, ← en]
        exact ⟨h6, h9⟩
    · rw [c1 0 (by omega)]; exact a5
    · by_cases c : i ≤ k
      · rw [c1 i c]; exact ⟨(a6 i h1 c).1, WN_f (a6 i h1 c).2 (by omega)⟩
      · rw [show i = k + 1 by omega, c2]; exact ⟨ho, WN_f h2 (by omega)⟩
    · rw [c1 0 (by omega)]; exact WN_f a7 (by omega)
/-- a list from i to e, c more behind the first -/
def LSe (P : Nat → Nat → Prop) (T : Nat → Nat → Int32) : Nat → Nat → Nat → Prop
  | 0, i, e => i = e ∧ P 0 e
  | c + 1, i, e => ∃ e', LSe P T c i e' ∧ T 9 e' = nI e ∧ P (c + 1) e
theorem LS_e {P : Nat → Nat → Prop} : ∀ {c i e : Nat}, LSe P T c i e → P c e
  | 0, _, _, h => h.2
  | _ + 1, _, _, ⟨_, _, _, h⟩ => h
/-- exps of a call, members -/
theorem LS_3 {O K : Nat} : ∀ (c m i e : Nat), LSe (fun _ e => (1 ≤ e ∧ e < LNo T % 70001) ∧ WX T FN O 14 K lc (nI e)) T c i e → (∃ F, WN T FN F 3 O m K lc (T 9 e)) → ∃ F, WN T FN F 3 O (m + c + 1) K lc (nI i) := by
  have one : ∀ (m e : Nat), (1 ≤ e ∧ e < LNo T % 70001) → WX T FN O 14 K lc (nI e) → (∃ F, WN T FN F 3 O m K lc (T 9 e)) → ∃ F, WN T FN F 3 O (m + 1) K lc (nI e) := by
    intro m e he ⟨F1, w⟩ ⟨F2, w9⟩
    refine ⟨max F1 F2 + 1, ?_⟩
    unfold WN
    exact Or.inr (Or.inr (Or.inr (Or.inl ⟨rfl, Or.inr ⟨m, e, rfl, rfl, he, WN_f w (by omega), WN_f w9 (by omega)⟩⟩)))
  intro c
  induction c with
  | zero => intro m i e h w; obtain ⟨rfl, h1, h2⟩ := h; exact one m i h1 h2 w
  | succ c ih =>
    intro m i e h w
    obtain ⟨e', h1, h9, h2, h3⟩ := h
    have := ih (m + 1) i e' h1 (by rw [h9]; exact one m e h2 h3 w)
    rw [show m + (c + 1) + 1 = m + 1 + c + 1 by omega]; exact this
theorem WN_end {nt O K : Nat} (h : nt = 3 ∨ nt = 4 ∨ nt = 6) : WN T FN 1 nt O 0 K lc (-1) := by
  unfold WN
  rcases h with rfl | rfl | rfl
  · exact Or.inr (Or.inr (Or.inr (Or.inl ⟨rfl, Or.inl ⟨rfl, rfl⟩⟩)))
  · exact Or.inr (Or.inr (Or.inr (Or.inr (Or.inl ⟨rfl, Or.inl ⟨rfl, rfl⟩⟩))))
  · exact Or.inr (Or.inr (Or.inr (Or.inr (Or.inr (Or.inr ⟨rfl, Or.inl ⟨rfl, rfl⟩⟩)))))
/-- names -/
theorem LS_6 {O K : Nat} : ∀ (c m i e : Nat), LSe (fun _ e => (1 ≤ e ∧ e < LNo T % 70001) ∧ ∃ s, T 6 e = nI s ∧ s < 60 ∧ ((T 5 e = 0 ∨ lc 0) ∧ lc (if T 5 e = 0 then 1 + s else 61 + s))) T c i e → (∃ F, WN T FN F 6 O m K lc (T 9 e)) → ∃ F, WN T FN F 6 O (m + c + 1) K lc (nI i) := by
  have one : ∀ (m e : Nat), ((1 ≤ e ∧ e < LNo T % 70001) ∧ ∃ s, T 6 e = nI s ∧ s < 60 ∧ ((T 5 e = 0 ∨ lc 0) ∧ lc (if T 5 e = 0 then 1 + s else 61 + s))) → (∃ F, WN T FN F 6 O m K lc (T 9 e)) → ∃ F, WN T FN F 6 O (m + 1) K lc (nI e) := by
    intro m e ⟨he, s, h6, hs, h5⟩ ⟨F2, w9⟩
    refine ⟨F2 + 1, ?_⟩
    unfold WN
    exact Or.inr (Or.inr (Or.inr (Or.inr (Or.inr (Or.inr ⟨rfl, Or.inr ⟨m, e, s, rfl, rfl, he, h6, hs, h5, w9⟩⟩)))))
  intro c
  induction c with
  | zero => intro m i e h w; obtain ⟨rfl, h1⟩ := h; exact one m i h1 w
  | succ c ih =>
    intro m i e h w
    obtain ⟨e', h1, h9, h2⟩ := h
    have := ih (m + 1) i e' h1 (by rw [h9]; exact one m e h2 w)
    rw [show m + (c + 1) + 1 = m + 1 + c + 1 by omega]; exact this
/-- branches -/
theorem LS_5 {O K : Nat} : ∀ (c i e : Nat), LSe (fun _ e => (1 ≤ e ∧ e < LNo T % 70001) ∧ WX T FN O 14 K lc (T 5 e) ∧ WX T FN O 14 K lc (T 6 e)) T c i e → (∃ F, WN T FN F 5 O 0 K lc (T 9 e)) → ∃ F, WN T FN F 5 O 0 K lc (nI i) := by
  have one : ∀ (e : Nat), ((1 ≤ e ∧ e < LNo T % 70001) ∧ WX T FN O 14 K lc (T 5 e) ∧ WX T FN O 14 K lc (T 6 e)) → (∃ F, WN T FN F 5 O 0 K lc (T 9 e)) → ∃ F, WN T FN F 5 O 0 K lc (nI e) := by
    intro e ⟨he, ⟨F5, h5⟩, F6, h6⟩ ⟨F2, w9⟩
    refine ⟨max F5 (max F6 F2) + 1, ?_⟩
    unfold WN
    exact Or.inr (Or.inr (Or.inr (Or.inr (Or.inr (Or.inl ⟨rfl, e, rfl, he, WN_f h6 (by omega), Or.inr ⟨WN_f h5 (by omega), WN_f w9 (by omega)⟩⟩)))))
  intro c
  induction c with
  | zero => intro i e h w; obtain ⟨rfl, h1⟩ := h; exact one i h1 w
  | succ c ih =>
    intro i e h w
    obtain ⟨e', h1, h9, h2⟩ := h
    exact ih i e' h1 (by rw [h9]; exact one e h2 w)
/-- iterators: each one leaves one less -/
def PIt (T : Nat → Nat → Int32) (FN : Nat → Nat → Prop) (O K : Nat) (lc : Nat → Prop) (e : Nat) : Prop := (1 ≤ e ∧ e < LNo T % 70001) ∧ 1 ≤ K ∧ (∃ q F, (1 ≤ q ∧ q ≤ 70000) ∧ WN T FN F 6 O q K lc (T 6 e)) ∧ WX T FN O 14 K lc (T 7 e)
theorem LS_4 {O K : Nat} : ∀ (c m i e : Nat), LSe (fun j e => PIt T FN O (K - j) lc e) T c i e → (∃ F, WN T FN F 4 O m (K - (c + 1)) lc (T 9 e)) → ∃ F, WN T FN F 4 O (m + c + 1) K lc (nI i) := by
  have one : ∀ (m e K : Nat), PIt T FN O K lc e → (∃ F, WN T FN F 4 O m (K - 1) lc (T 9 e)) → ∃ F, WN T FN F 4 O (m + 1) K lc (nI e) := by
    intro m e K ⟨he, hK, ⟨q, F6, hq, h6⟩, F7, h7⟩ ⟨F2, w9⟩
    refine ⟨max F6 (max F7 F2) + 1, ?_⟩
    unfold WN
    exact Or.inr (Or.inr (Or.inr (Or.inr (Or.inl ⟨rfl, Or.inr ⟨m, e, q, rfl, rfl, he, hK, hq, WN_f h6 (by omega), WN_f h7 (by omega), WN_f w9 (by omega)⟩⟩))))
  intro c
  induction c with
  | zero => intro m i e h w; obtain ⟨rfl, h1⟩ := h; exact one m i K h1 w
  | succ c ih =>
    intro m i e h w
    obtain ⟨e', h1, h9, h2⟩ := h
    have := ih (m + 1) i e' h1 (by rw [h9]; exact one m e (K - (c + 1)) h2 (by rw [show K - (c + 1) - 1 = K - (c + 1 + 1) by omega]; exact w))
    rw [show m + (c + 1) + 1 = m + 1 + c + 1 by omega]; exact this
end WTR
end JnS226
