/-! Statements on both sides (reference): a for seeks its next turn. -/
def Isk (base i : Nat) : Prop := i = 0 ∨ i = 2 ∨ Inx base i
/-- behind seek: the body is begun; or the for is closed; or an error -/
def SKq (T : Nat → Nat → Int32) (t w XC m kk : Nat) (F : List Nat) (σ1 σ2 : MS) (r1 r2 : Int32 × MS) : Prop := r1.1 = r2.1 ∧ FCt (Isk (suI T F)) σ1 r1.2 ∧ FCt (Isk (suI T F)) σ2 r2.2 ∧ UT r1.2 ∧ UT r2.2 ∧ ((r1.1 = -1 ∧ ¬ T 7 m = -1 ∧ ∃ w', w ≤ w' ∧ EI t w' XC r1.2 r2.2 ∧ r1.2.2.2 30 0 = T 7 m ∧ r1.2.2.2 30 2 = nI (F.length + 1) ∧ r1.2.2.2 30 3 = nI (suI T F + kk) ∧ ItS r1.2 (suI T F + kk)) ∨ (r1.1 = nI m ∧ ∃ w', w ≤ w' ∧ EI t w' XC r1.2 r2.2 ∧ r1.2.2.2 30 2 = nI F.length ∧ r1.2.2.2 30 3 = nI (suI T F) ∧ ItS r1.2 (suI T F)) ∨ (r1.1 = -1 ∧ EZ t 179300 r1.2 ∧ EZ t 179300 r2.2))
section SEK
variable {T : Nat → Nat → Int32} {FN : Nat → Nat → Prop} {lc cn : Nat → Prop} {t w XC kk m : Nat} {F : List Nat} {σ1 σ2 : MS}
theorem Isk_ct {base i : Nat} (h : Isk base i) : Ict i := by unfold Isk Inx at h; unfold Ict; omega
theorem Isk_x {base i : Nat} (h : Inx base i) : Isk base i := Or.inr (Or.inr h)
theorem EI_30 {i : Nat} (hE : EI t w XC σ1 σ2) (hi : ¬ Zn 30 i) (hn : ¬ InA σ1 30 i) : σ2.2.2 30 i = σ1.2.2 30 i := by
  obtain ⟨g1, l1, B1, h1, X1, g2, l2, B2, h2, X2, m1, m2, hR, _⟩ := hE
  exact (hR.2.1 30 i (by unfold AlR; omega) hi hn).symm
theorem EI_B (hE : EI t w XC σ1 σ2) : StB (σ1.2.2 30) 0 ∧ StB (σ2.2.2 30) 0 := by
  obtain ⟨g1, l1, B1, h1, X1, g2, l2, B2, h2, X2, m1, m2, hR, _⟩ := hE
  obtain ⟨_, _, _, _, _, _, s, _⟩ := m1.2.1
  obtain ⟨_, _, _, _, _, _, s', _⟩ := m2.2.1
  exact ⟨s, s'⟩
theorem E_seek {c : Nat} {go : Int32} (hXC : XC ≤ 401000) (ht : t ≤ w + 17000) (hm : (1 ≤ m ∧ m < LNo T % 70001)) (hL : ItL T FN lc cn kk (T 5 m)) (hkk : 1 ≤ kk ∧ kk ≤ 60) (hb : suI T F + kk ≤ 3100) (hl : F.length + 1 ≤ 1050) (hcond : T 6 m = -1 ∨ Wx0 T FN lc (T 6 m)) (hS : Sc1 T FN lc cn σ1) (hI : EI t w XC σ1 σ2) (U1 : UT σ1) (U2 : UT σ2) (h2 : σ1.2.2 30 2 = nI (F.length + 1)) (hF : FSk T (σ1.2.2 30) (m :: F)) (h3 : σ1.2.2 30 3 = nI (suI T F + c)) (hIt : ItS σ1 (suI T F + c)) (hc : c ≤ kk) (hgo : ¬ go = 0 → c < kk) {L1 L2 : Nat → Int32} (n1 : L1 1 = nI m) (o1 : L2 1 = nI m) (n2 : L1 2 = go) (o2 : L2 2 = go) : T2 (fun k => x_seek k 0 L1 σ1) (fun k => x_seek k 0 L2 σ2) (SKq T t w XC m kk F σ1 σ2) := by
  have hS2 := Sc1_ei hS hI
  obtain ⟨⟨_, A0, A1⟩, _⟩ := id hF
  -- the end
  have nineZ : ∀ (π1 π2 : MS) (K1 K2 : Nat → Int32), FCt (Isk (suI T F)) σ1 π1 → FCt (Isk (suI T F)) σ2 π2 → UT π1 → UT π2 → EZ t 179300 π1 → EZ t 179300 π2 → T2 (fun k => x_seek k 9 K1 π1) (fun k => x_seek k 9 K2 π2) (SKq T t w XC m kk F σ1 σ2) := by
    intro π1 π2 K1 K2 g1 g2 W1 W2 z1 z2
    refine T2_suc (fun k => by rw [x_seek]) (fun k => by rw [x_seek]) ?_
    refine T2_ite ⟨fun z => absurd z (EZ_le z1), fun z => absurd z (EZ_le z2)⟩ (fun z _ => absurd z (EZ_le z1)) (fun _ _ => ?_)
    exact T2_some ⟨rfl, g1, g2, W1, W2, Or.inr (Or.inr ⟨rfl, z1, z2⟩)⟩
  have nine0 : ∀ (w' : Nat) (π1 π2 : MS) (K1 K2 : Nat → Int32), w ≤ w' → FCt (Isk (suI T F)) σ1 π1 → FCt (Isk (suI T F)) σ2 π2 → UT π1 → UT π2 → EI t w' XC π1 π2 → π1.2.2 30 2 = nI (F.length + 1) → FSk T (π1.2.2 30) (m :: F) → π1.2.2 30 3 = nI (suI T F) → ItS π1 (suI T F) → K1 1 = nI m → K2 1 = nI m → K1 4 = 0 → K2 4 = 0 → T2 (fun k => x_seek k 9 K1 π1) (fun k => x_seek k 9 K2 π2) (SKq T t w XC m kk F σ1 σ2) := by
    intro w' π1 π2 K1 K2 hw g1 g2 W1 W2 hJ p2 pF p3 pit k1 l1 k4 l4
    obtain ⟨e1, e2⟩ := EI_e hJ
    refine T2_suc (fun k => by rw [x_seek]) (fun k => by rw [x_seek]) ?_
    rw [e1, e2]
    refine T2_ite Iff.rfl (fun _ _ => ?_) (fun z _ => absurd (by decide) z)
    refine T2_suc (fun k => by rw [x_seek]) (fun k => by rw [x_seek]) ?_
    rw [k4, l4]
    refine T2_ite Iff.rfl (fun _ _ => ?_) (fun z _ => absurd rfl z)
    refine T2_suc (fun k => by rw [x_seek]) (fun k => by rw [x_seek]) ?_
    refine T2_ob (E_closeFor (Sc1_fc hS g1 (fun i => Isk_ct)) hJ W1 W2 hl p2 pF p3 (by omega) hL) (fun r1 r2 hr => ?_)
    obtain ⟨c1, c2, c3, c4, c5, c6, c7, c8⟩ := hr
    rw [k1, l1]
    exact T2_some ⟨rfl, FC_tr g1 (FC_mo (fun i hi => by unfold Isk Inx; omega) c4), FC_tr g2 (FC_mo (fun i hi => by unfold Isk Inx; omega) c5), c2, c3, Or.inr (Or.inl ⟨rfl, w', hw, c1, c6, c7, c8 pit⟩)⟩
  have nine1 : ∀ (w' : Nat) (π1 π2 : MS) (K1 K2 : Nat → Int32), ¬ T 7 m = -1 → w ≤ w' → FCt (Isk (suI T F)) σ1 π1 → FCt (Isk (suI T F)) σ2 π2 → UT π1 → UT π2 → EI t w' XC π1 π2 → π1.2.2 30 2 = nI (F.length + 1) → π1.2.2 30 3 = nI (suI T F + kk) → ItS π1 (suI T F + kk) → K1 1 = nI m → K2 1 = nI m → K1 4 = 1 → K2 4 = 1 → T2 (fun k => x_seek k 9 K1 π1) (fun k => x_seek k 9 K2 π2) (SKq T t w XC m kk F σ1 σ2) := by
    intro w' π1 π2 K1 K2 h7 hw g1 g2 W1 W2 hJ p2 p3 pit k1 l1 k4 l4
    obtain ⟨e1, e2⟩ := EI_e hJ
    have S1 := Sc1_fc hS g1 (fun i => Isk_ct)
    have S2 := Sc1_fc hS2 g2 (fun i => Isk_ct)
    refine T2_suc (fun k => by rw [x_seek]) (fun k => by rw [x_seek]) ?_
    rw [e1, e2]
    refine T2_ite Iff.rfl (fun _ _ => ?_) (fun z _ => absurd (by decide) z)
    refine T2_suc (fun k => by rw [x_seek]) (fun k => by rw [x_seek]) ?_
    rw [k4, l4, k1, l1]
    refine T2_ite Iff.rfl (fun z _ => absurd z (by decide)) (fun _ _ => ?_)
    refine T2_chk (n_in (by omega) (by omega)) (n_in (by omega) (by omega)) ?_
    refine T2_chk (by decide) (by decide) ?_
    rw [n_cl (p := m) (by omega), show (0 : Int32).toNatClampNeg = 0 from by decide, S1.1.1.1 7 _ (by omega) (by omega) (by omega), S2.1.1.1 7 _ (by omega) (by omega) (by omega)]
    refine T2_suc (fun k => by rw [x_seek]) (fun k => by rw [x_seek]) ?_
    have o : ∀ (τ : MS) j, j ≠ 0 → (mAr τ 30 0 (T 7 m)).2.2 30 j = τ.2.2 30 j := fun τ j hj => by rw [mAr_s, upd_other hj]
    refine T2_some ⟨rfl, FC_tr g1 (FC_w (Or.inl rfl)), FC_tr g2 (FC_w (Or.inl rfl)), UT_c30 (by unfold Zn; omega) (EI_B hJ).1 W1, UT_c30 (by unfold Zn; omega) (EI_B hJ).2 W2, Or.inl ⟨rfl, h7, w', hw, EI_c30 (by unfold Zn; omega) hJ, ?_, ?_, ?_, ?_⟩⟩
    · show (mAr π1 30 0 (T 7 m)).2.2 30 0 = _
      rw [mAr_s, upd_same]
    · exact (o π1 2 (by omega)).trans p2
    · exact (o π1 3 (by omega)).trans p3
    · exact ItS_c (σ := π1) (by omega) (mAr_o (by decide)) (fun i hi => o _ _ (by omega)) pit
  -- behind a turn
  have turn : ∀ (M w' : Nat) (s1 s2 : Int32 × MS) (π1 π2 : MS) (K1 K2 : Nat → Int32), 60001 ≤ w' + M → w ≤ w' → FCt (Isk (suI T F)) σ1 π1 → FCt (Isk (suI T F)) σ2 π2 → π1.2.2 30 2 = nI (F.length + 1) → FSk T (π1.2.2 30) (m :: F) → NTq t w' XC (suI T F) kk π1 π2 s1 s2 → K1 1 = nI m → K2 1 = nI m → K1 3 = nI (suI T F) → K2 3 = nI (suI T F) → K1 4 = s1.1 → K2 4 = s2.1 → T2 (fun k => x_seek k 1 K1 s1.2) (fun k => x_seek k 1 K2 s2.2) (SKq T t w XC m kk F σ1 σ2) := by
    intro M
    induction M with
    | zero =>
      intro w' s1 s2 π1 π2 K1 K2 hM hw g1 g2 p2 pF hs k1 l1 k3 l3 k4 l4
      obtain ⟨c1, c2, c3, c4, c5, c6⟩ := hs
      have g1' := FC_tr g1 (FC_mo (fun i => Isk_x) c2)
      have g2' := FC_tr g2 (FC_mo (fun i => Isk_x) c3)
      refine T2_suc (fun k => by rw [x_seek]) (fun k => by rw [x_seek]) ?_
      rw [k4, l4, ← c1]
      rcases c6 with ⟨z0, w2, hw2, hJ, _⟩ | ⟨z0, w2, hw2, hJ, _⟩ | ⟨z0, z1, z2⟩
      · have := EI_w hJ; omega
      · have := EI_w hJ; omega
      · rw [z0]
        refine T2_ite Iff.rfl (fun _ _ => ?_) (fun z _ => absurd rfl z)
        exact nineZ _ _ _ _ g1' g2' c4 c5 z1 z2
    | succ M ih =>
      intro w' s1 s2 π1 π2 K1 K2 hM hw g1 g2 p2 pF hs k1 l1 k3 l3 k4 l4
      obtain ⟨c1, c2, c3, c4, c5, c6⟩ := hs
      have g1' := FC_tr g1 (FC_mo (fun i => Isk_x) c2)
      have g2' := FC_tr g2 (FC_mo (fun i => Isk_x) c3)
      have p2' : s1.2.2.2 30 2 = nI (F.length + 1) := by rw [FC_30 c2 (by unfold Zn; omega) (by unfold Inx; omega)]; exact p2
      have pF' : FSk T (s1.2.2.2 30) (m :: F) := FSk_c (by show F.length + 1 ≤ 1050; omega) (fun i h1 h2 => FC_30 c2 (by unfold Zn; omega) (by unfold Inx; omega)) pF
      refine T2_suc (fun k => by rw [x_seek]) (fun k => by rw [x_seek]) ?_
      rcases c6 with ⟨z0, w2, hw2, hJ, q3, qit⟩ | ⟨z0, w2, hw2, hJ, q3, qit⟩ | ⟨z0, z1, z2⟩
      · rw [k4, l4, ← c1, z0]
        have k4' : K1 4 = 1 := k4.trans z0
        have l4' : K2 4 = 1 := l4.trans (c1.symm.trans z0)
        have S1 := Sc1_fc hS g1' (fun i => Isk_ct)
        have S2 := Sc1_fc hS2 g2' (fun i => Isk_ct)
        obtain ⟨e1, e2⟩ := EI_e hJ
        generalize s1.2 = ν1 at *
        generalize s2.2 = ν2 at *
        -- blocks 6 on
        have six : ∀ (w3 : Nat) (μ1 μ2 : MS) (Q1 Q2 : Nat → Int32), FE ν1 μ1 → FE ν2 μ2 → ((w2 ≤ w3 ∧ EI t w3 XC μ1 μ2) ∨ (EZ t 179300 μ1 ∧ EZ t 179300 μ2)) → Q1 1 = nI m → Q2 1 = nI m → Q1 3 = nI (suI T F) → Q2 3 = nI (suI T F) → T2 (fun k => x_seek k 6 Q1 μ1) (fun k => x_seek k 6 Q2 μ2) (SKq T t w XC m kk F σ1 σ2) := by
          intro w3 μ1 μ2 Q1 Q2 f1 f2 hor a1 a2 a3 a4
          have G1 := FC_tr g1' (FC_fe f1)
          have G2 := FC_tr g2' (FC_fe f2)
          refine T2_suc (fun k => by rw [x_seek]) (fun k => by rw [x_seek]) ?_
          rcases hor with ⟨hw3, hK⟩ | ⟨z1, z2⟩
          · obtain ⟨x1, x2⟩ := EI_e hK
            rw [x1, x2]
            refine T2_ite Iff.rfl (fun _ _ => ?_) (fun z _ => absurd rfl z)
            have q3' : μ1.2.2 30 3 = nI (suI T F + kk) := by rw [f1.2.1 30 3 (by unfold AlR; omega) (by unfold Zn; omega) (by omega)]; exact q3
            have q2' : μ1.2.2 30 2 = nI (F.length + 1) := by rw [f1.2.1 30 2 (by unfold AlR; omega) (by unfold Zn; omega) (by omega)]; exact p2'
            have qF' : FSk T (μ1.2.2 30) (m :: F) := FSk_c (by show F.length + 1 ≤ 1050; omega) (fun i h1 h2 => f1.2.1 30 i (by unfold AlR; omega) (by unfold Zn; omega) (by omega)) pF'
            refine T2_ob (E_nextTurn (c := kk) (go := 0) hXC (by omega) hm hL hkk hb (Sc1_fs S1 (FS_fe f1)) hK (UT_fe f1 c4) (UT_fe f2 c5) q3' (ItS_fs (FS_fe f1) q3 (by omega) (Nat.le_refl _) qit) (Nat.le_refl _) (fun z => absurd rfl z) (by exact a1) (by exact a2) (by exact a3) (by exact a4) rfl rfl) (fun y1 y2 hy => ?_)
            have hy0 := hy
            obtain ⟨d1, _, _, _, _, d6⟩ := hy0
            have b8 : ∀ (R1 R2 : Nat → Int32), R1 1 = nI m → R2 1 = nI m → R1 3 = nI (suI T F) → R2 3 = nI (suI T F) → R1 100 = y1.1 → R2 100 = y2.1 → T2 (fun k => x_seek k 8 R1 y1.2) (fun k => x_seek k 8 R2 y2.2) (SKq T t w XC m kk F σ1 σ2) := by
              intro R1 R2 e1 e2 e3 e4 e5 e6
              refine T2_suc (fun k => by rw [x_seek]) (fun k => by rw [x_seek]) ?_
              exact ih w3 y1 y2 μ1 μ2 _ _ (by omega) (by omega) G1 G2 q2' qF' hy e1 e2 e3 e4 e5 e6
            refine T2_ite (by rw [d1]) (fun z z' => ?_) (fun z z' => ?_)
            · refine T2_suc (fun k => by rw [x_seek]) (fun k => by rw [x_seek]) ?_
              exact b8 _ _ a1 a2 a3 a4 z.symm z'.symm
            · have y1e : y1.1 = 1 := by
                rcases d6 with d6 | d6 | d6
                · exact d6.1
                · exact absurd d6.1 z
                · exact absurd d6.1 z
              exact b8 _ _ a1 a2 a3 a4 y1e.symm (d1.symm.trans y1e).symm
          · refine T2_ite ⟨fun z => absurd z (EZ_e z1), fun z => absurd z (EZ_e z2)⟩ (fun z _ => absurd z (EZ_e z1)) (fun _ _ => ?_)
            refine T2_suc (fun k => by rw [x_seek]) (fun k => by rw [x_seek]) ?_
            refine T2_suc (fun k => by rw [x_seek]) (fun k => by rw [x_seek]) ?_
            refine T2_suc (fun k => by rw [x_seek]) (fun k => by rw [x_seek]) ?_
            refine T2_ite (c1 := (0 : Int32) = 0) (c2 := (0 : Int32) = 0) Iff.rfl (fun _ _ => ?_) (fun z _ => absurd rfl z)
            exact nineZ _ _ _ _ G1 G2 (UT_fe f1 c4) (UT_fe f2 c5) z1 z2
        -- block 5
        have five : ∀ (h : Int32) (w3 : Nat) (μ1 μ2 : MS) (Q1 Q2 : Nat → Int32), FE ν1 μ1 → FE ν2 μ2 → ((w2 ≤ w3 ∧ EI t w3 XC μ1 μ2) ∨ (EZ t 179300 μ1 ∧ EZ t 179300 μ2 ∧ h = 0)) → (h = 0 ∨ h = 1) → Q1 1 = nI m → Q2 1 = nI m → Q1 3 = nI (suI T F) → Q2 3 = nI (suI T F) → Q1 4 = 1 → Q2 4 = 1 → Q1 100 = h → Q2 100 = h → T2 (fun k => x_seek k 5 Q1 μ1) (fun k => x_seek k 5 Q2 μ2) (SKq T t w XC m kk F σ1 σ2) := by
          intro h w3 μ1 μ2 Q1 Q2 f1 f2 hor hh a1 a2 a3 a4 a5 a6 a7 a8
          have T1 := Sc1_fs S1 (FS_fe f1)
          have T2' := Sc1_fs S2 (FS_fe f2)
          refine T2_suc (fun k => by rw [x_seek]) (fun k => by rw [x_seek]) ?_
          rw [a7, a8]
          refine T2_ite Iff.rfl (fun _ _ => six w3 μ1 μ2 _ _ f1 f2 (hor.imp id (fun z => ⟨z.1, z.2.1⟩)) a1 a2 a3 a4) (fun hz _ => ?_)
          rw [a1, a2]
          refine T2_chk (n_in (by omega) (by omega)) (n_in (by omega) (by omega)) ?_
          rw [n_cl (p := m) (by omega), T1.1.1.1 7 _ (by omega) (by omega) (by omega), T2'.1.1.1 7 _ (by omega) (by omega) (by omega)]
          refine T2_ite Iff.rfl (fun _ _ => six w3 μ1 μ2 _ _ f1 f2 (hor.imp id (fun z => ⟨z.1, z.2.1⟩)) a1 a2 a3 a4) (fun h7 _ => ?_)
          rcases hor with ⟨hw3, hK⟩ | ⟨_, _, z⟩
          · refine nine1 w3 μ1 μ2 _ _ h7 (by omega) (FC_tr g1' (FC_fe f1)) (FC_tr g2' (FC_fe f2)) (UT_fe f1 c4) (UT_fe f2 c5) hK ?_ ?_ (ItS_fs (FS_fe f1) q3 (by omega) (Nat.le_refl _) qit) a1 a2 a5 a6
            · rw [f1.2.1 30 2 (by unfold AlR; omega) (by unfold Zn; omega) (by omega)]; exact p2'
            · rw [f1.2.1 30 3 (by unfold AlR; omega) (by unfold Zn; omega) (by omega)]; exact q3
          · exact absurd z hz
        have two : T2 (fun k => x_seek k 2 K1 ν1) (fun k => x_seek k 2 K2 ν2) (SKq T t w XC m kk F σ1 σ2) := by
          refine T2_suc (fun k => by rw [x_seek]) (fun k => by rw [x_seek]) ?_
          rw [k1, l1]
          refine T2_chk (n_in (by omega) (by omega)) (n_in (by omega) (by omega)) ?_
          rw [n_cl (p := m) (by omega), S1.1.1.1 6 _ (by omega) (by omega) (by omega), S2.1.1.1 6 _ (by omega) (by omega) (by omega)]
          refine T2_ite Iff.rfl (fun _ _ => ?_) (fun h6 _ => ?_)
          · refine T2_suc (fun k => by rw [x_seek]) (fun k => by rw [x_seek]) ?_
            exact five 1 w2 ν1 ν2 _ _ FE_rf FE_rf (Or.inl ⟨Nat.le_refl _, hJ⟩) (Or.inr rfl) k1 l1 k3 l3 k4' l4' rfl rfl
          · refine T2_chk (n_in3 (by omega) (by omega)) (n_in3 (by omega) (by omega)) ?_
            refine T2_ob (E_hold (by omega) (by omega) S1.1 (hcond.resolve_left h6) hJ rfl rfl) (fun y1 y2 hy => ?_)
            obtain ⟨d1, d2, d3, d4⟩ := hy
            refine T2_ite (by rw [d1]) (fun z z' => ?_) (fun z z' => ?_)
            · refine T2_suc (fun k => by rw [x_seek]) (fun k => by rw [x_seek]) ?_
              rcases d4 with ⟨w3, hw3, hK⟩ | ⟨z1, z2, _⟩
              · exact five 0 w3 _ _ _ _ d2 d3 (Or.inl ⟨hw3, hK⟩) (Or.inl rfl) k1 l1 k3 l3 k4' l4' rfl rfl
              · exact five 0 w2 _ _ _ _ d2 d3 (Or.inr ⟨z1, z2, rfl⟩) (Or.inl rfl) k1 l1 k3 l3 k4' l4' rfl rfl
            · refine T2_suc (fun k => by rw [x_seek]) (fun k => by rw [x_seek]) ?_
              rcases d4 with ⟨w3, hw3, hK⟩ | ⟨_, _, z0⟩
              · exact five 1 w3 _ _ _ _ d2 d3 (Or.inl ⟨hw3, hK⟩) (Or.inr rfl) k1 l1 k3 l3 k4' l4' rfl rfl
              · exact absurd z0 z
        refine T2_ite Iff.rfl (fun z _ => absurd z (by decide)) (fun _ _ => ?_)
        rw [e1, e2]
        refine T2_ite Iff.rfl (fun _ _ => ?_) (fun z _ => absurd rfl z)
        rw [k1, l1]
        refine T2_chk (n_in (by omega) (by omega)) (n_in (by omega) (by omega)) ?_
        rw [n_cl (p := m) (by omega), S1.1.1.1 7 _ (by omega) (by omega) (by omega), S2.1.1.1 7 _ (by omega) (by omega) (by omega)]
        refine T2_ite Iff.rfl (fun _ _ => two) (fun h7 _ => ?_)
        refine T2_chk (n_in3 (by omega) (by omega)) (n_in3 (by omega) (by omega)) ?_
        rw [S1.1.1.1 6 _ (by omega) (by omega) (by omega), S2.1.1.1 6 _ (by omega) (by omega) (by omega)]
        refine T2_ite Iff.rfl (fun _ _ => ?_) (fun _ _ => two)
        exact nine1 w2 ν1 ν2 _ _ h7 (by omega) g1' g2' c4 c5 hJ p2' q3 qit k1 l1 k4' l4'
      · rw [k4, l4, ← c1, z0]
        refine T2_ite Iff.rfl (fun _ _ => ?_) (fun z _ => absurd rfl z)
        exact nine0 w2 _ _ _ _ (by omega) g1' g2' c4 c5 hJ p2' pF' q3 qit k1 l1 (k4.trans z0) (l4.trans (c1.symm.trans z0))
      · rw [k4, l4, ← c1, z0]
        refine T2_ite Iff.rfl (fun _ _ => ?_) (fun z _ => absurd rfl z)
        exact nineZ _ _ _ _ g1' g2' c4 c5 z1 z2
  have pi : (3214 : Int32) + 2 * nI F.length + 1 = nI (3214 + 2 * F.length + 1) := by
    rw [show (2 : Int32) * nI F.length = nI (2 * F.length) from n_mulN 2 F.length, show (3214 : Int32) + nI (2 * F.length) = nI (3214 + 2 * F.length) from n_add (p := 3214) (by omega), n_add1]
  refine T2_suc (fun k => by rw [x_seek]) (fun k => by rw [x_seek]) ?_
  refine T2_chk (by decide) (by decide) ?_
  rw [show (2 : Int32).toNatClampNeg = 2 from by decide, EI_30 hI (i := 2) (by unfold Zn; omega) (InA_4 (by omega)), h2, n_sub1 (by omega), pi]
  refine T2_chk (n_in (by omega) (by omega)) (n_in (by omega) (by omega)) ?_
  rw [n_cl (p := 3214 + 2 * F.length + 1) (by omega), EI_30 hI (i := 3214 + 2 * F.length + 1) (by unfold Zn; omega) (InA_fo h2 (by omega) (by omega)), A1, n1, o1, n2, o2]
  refine T2_ob (E_nextTurn (c := c) (go := go) hXC ht hm hL hkk hb hS hI U1 U2 h3 hIt hc hgo rfl rfl rfl rfl rfl rfl) (fun s1 s2 hs => ?_)
  exact turn 60001 w s1 s2 σ1 σ2 _ _ (by omega) (Nat.le_refl _) FC_rf FC_rf h2 hF hs n1 o1 rfl rfl rfl rfl
end SEK
