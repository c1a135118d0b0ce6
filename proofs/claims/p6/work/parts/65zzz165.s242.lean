/-! Statements on both sides (reference): the next turn of a for. -/
/-- numbers of the state that a for's turn changes -/
def Inx (base i : Nat) : Prop := i = 3 ∨ 8414 + base ≤ i
/-- behind nextTurn: a turn; or no more; or an error -/
def NTq (t w XC base kk : Nat) (σ1 σ2 : MS) (r1 r2 : Int32 × MS) : Prop := r1.1 = r2.1 ∧ FCt (Inx base) σ1 r1.2 ∧ FCt (Inx base) σ2 r2.2 ∧ UT r1.2 ∧ UT r2.2 ∧ ((r1.1 = 1 ∧ ∃ w', w + 1 ≤ w' ∧ EI t w' XC r1.2 r2.2 ∧ r1.2.2.2 30 3 = nI (base + kk) ∧ ItS r1.2 (base + kk)) ∨ (r1.1 = 0 ∧ ∃ w', w ≤ w' ∧ EI t w' XC r1.2 r2.2 ∧ r1.2.2.2 30 3 = nI base ∧ ItS r1.2 base) ∨ (r1.1 = 0 ∧ EZ t 179300 r1.2 ∧ EZ t 179300 r2.2))
section NXT
variable {T : Nat → Nat → Int32} {FN : Nat → Nat → Prop} {lc cn : Nat → Prop} {t w XC base kk m : Nat} {σ1 σ2 : MS}
theorem Inx_ct {i : Nat} (h : Inx base i) : Ict i := by unfold Inx at h; unfold Ict; omega
theorem ItL_9 : ∀ {k : Nat} {x : Int32}, ItL T FN lc cn k x → (x = -1 ↔ k = 0) := by
  intro k x h
  cases k with
  | zero => exact ⟨fun _ => rfl, fun _ => h⟩
  | succ k =>
    obtain ⟨e, xe, he, _⟩ := h
    refine ⟨fun z => ?_, fun z => by omega⟩
    rw [xe] at z
    exact absurd z (ne_m1 he)
theorem E_nextTurn0 {ms : Nat → Nat} (hm1 : ∀ a b, a ≤ b → ms b ≤ ms a) (hm2 : ∀ a, a + 1 ≤ 60000 → ms (a + 1) + 204 ≤ ms a) {R XC' : Nat} (hR : XC - 400000 + 15 ≤ R) (hR2 : R ≤ 79900) (hXC' : XC ≤ XC' ∧ XC' ≤ 402000 ∧ R ≤ XC' - 400000 + 10 ∧ XC' - 400000 + 10 ≤ 79900) (hXC : XC ≤ 401000) (ht : t ≤ w + 17000) (hm : (1 ≤ m ∧ m < LNo T % 70001)) (hL : ItL T FN lc cn kk (T 5 m)) (hkk : 1 ≤ kk ∧ kk ≤ 60) (hb : base + kk ≤ 3100) (hS : Sc1 T FN lc cn σ1) (hS2 : Sc1 T FN lc cn σ2) : ∀ (M c w' : Nat) (go : Int32) (τ1 τ2 : MS) (N1 N2 : Nat → Int32), ms w' + 2 * c + (if go = 0 then 0 else 3) ≤ M → w ≤ w' → EI t w' XC τ1 τ2 → UT τ1 → UT τ2 → FCt (Inx base) σ1 τ1 → FCt (Inx base) σ2 τ2 → τ1.2.2 30 3 = nI (base + c) → ItS τ1 (base + c) → c ≤ kk → (¬ go = 0 → c < kk) → N1 1 = nI m → N2 1 = nI m → N1 2 = nI base → N2 2 = nI base → N1 4 = go → N2 4 = go → T2 (fun k => x_nextTurn k 1 N1 τ1) (fun k => x_nextTurn k 1 N2 τ2) (NTq t w XC base kk σ1 σ2) := by
  intro M
  induction M using Nat.strongRecOn with
  | ind M ih =>
  intro c w' go τ1 τ2 N1 N2 hM hw hJ V1 V2 f1 f2 h3 hIt hc hgo n1 o1 n2 o2 n4 o4
  have w6 := EI_w hJ
  obtain ⟨e1, e2⟩ := EI_e hJ
  have zend : ∀ (π1 π2 : MS) (K1 K2 : Nat → Int32) (b : Nat), b ≤ 179300 → FCt (Inx base) σ1 π1 → FCt (Inx base) σ2 π2 → UT π1 → UT π2 → EZ t b π1 → EZ t b π2 → T2 (fun k => x_nextTurn k 1 K1 π1) (fun k => x_nextTurn k 1 K2 π2) (NTq t w XC base kk σ1 σ2) := by
    intro π1 π2 K1 K2 b hb g1 g2 W1 W2 z1 z2
    refine T2_suc (fun k => by rw [x_nextTurn]) (fun k => by rw [x_nextTurn]) ?_
    refine T2_ite ⟨fun z => absurd z (EZ_e z1), fun z => absurd z (EZ_e z2)⟩ (fun z _ => absurd z (EZ_e z1)) (fun _ _ => ?_)
    refine T2_suc (fun k => by rw [x_nextTurn]) (fun k => by rw [x_nextTurn]) ?_
    exact T2_some ⟨rfl, g1, g2, W1, W2, Or.inr (Or.inr ⟨rfl, EZ_mo z1 (Nat.le_refl _) hb, EZ_mo z2 (Nat.le_refl _) hb⟩)⟩
  -- a step of the last iterator that is open
  have three : ∀ (d w2 : Nat) (π1 π2 : MS) (K1 K2 : Nat → Int32), d < kk → w' ≤ w2 → (d + 1 ≤ c ∨ ¬ go = 0 ∧ d ≤ c) → FCt (Inx base) σ1 π1 → FCt (Inx base) σ2 π2 → UT π1 → UT π2 → EI t w2 XC π1 π2 → Rm R π1 → Rm R π2 → π1.2.2 30 3 = nI (base + d + 1) → ItS π1 (base + d + 1) → K1 1 = nI m → K2 1 = nI m → K1 2 = nI base → K2 2 = nI base → K1 5 = nI (d + 1) → K2 5 = nI (d + 1) → T2 (fun k => x_nextTurn k 3 K1 π1) (fun k => x_nextTurn k 3 K2 π2) (NTq t w XC base kk σ1 σ2) := by
    intro d w2 π1 π2 K1 K2 hd hw2 hdc g1 g2 W1 W2 hK rm1 rm2 p3 pit k1 l1 k2 l2 k5 l5
    have S1 := Sc1_fc hS g1 (fun i => Inx_ct)
    have S2 := Sc1_fc hS2 g2 (fun i => Inx_ct)
    refine T2_suc (fun k => by rw [x_nextTurn]) (fun k => by rw [x_nextTurn]) ?_
    rw [k1, l1, k5, l5, n_sub1 (by omega)]
    refine T2_ob (T2_t (s_iterOf (x := 0) S1.1.1.1 hm hL hd rfl rfl (by omega)) (s_iterOf (x := 0) S2.1.1.1 hm hL hd rfl rfl (by omega))) (fun a b hab => ?_)
    obtain ⟨⟨a2, an, e', ae, he, ⟨qn, q1, q2, hN⟩, _, hLe⟩, b2, bn, _⟩ := hab
    have be : b.1 = nI e' := bn.trans (an.symm.trans ae)
    rw [a2, b2, ae, be]
    have hK0 := hK
    obtain ⟨gA, lA, BA, hA, XA, gB, lB, BB, hB, XB, hX⟩ := hK0
    have rA := Rm_h hX.1.1 rm1
    have rB := Rm_h hX.2.1.1 rm2
    refine T2_ob (E_stepFor (q := base + d) (n := e') (qn := qn) (by omega) (by omega) S1 hX ⟨by omega, by omega⟩ W1 W2 (by omega) p3 pit he ⟨q1, q2⟩ hN rfl rfl) (fun s1 s2 hs => ?_)
    obtain ⟨c1, c2, c3, c4, c5, c6⟩ := hs
    have g1' : FCt (Inx base) σ1 s1.2 := FC_tr g1 (FC_mo (fun i hi => Or.inr (by omega)) c2)
    have g2' : FCt (Inx base) σ2 s2.2 := FC_tr g2 (FC_mo (fun i hi => Or.inr (by omega)) c3)
    have S1' := Sc1_fc hS g1' (fun i => Inx_ct)
    have S2' := Sc1_fc hS2 g2' (fun i => Inx_ct)
    -- block 4
    have four0 : ∀ (d' w3 : Nat) (ν1 ν2 : MS) (Q1 Q2 : Nat → Int32), d' ≤ c → ms w3 + 2 * d' < M → w ≤ w3 → d' ≤ kk → EI t w3 XC ν1 ν2 → UT ν1 → UT ν2 → FCt (Inx base) σ1 ν1 → FCt (Inx base) σ2 ν2 → ν1.2.2 30 3 = nI (base + d') → ItS ν1 (base + d') → Q1 1 = nI m → Q2 1 = nI m → Q1 2 = nI base → Q2 2 = nI base → Q1 4 = 0 → Q2 4 = 0 → T2 (fun k => x_nextTurn k 4 Q1 ν1) (fun k => x_nextTurn k 4 Q2 ν2) (NTq t w XC base kk σ1 σ2) := by
      intro d' w3 ν1 ν2 Q1 Q2 hd' hM' hw3 hk' hK' X1 X2 y1 y2 y3 y4 z1 z2 z3 z4 z5 z6
      refine T2_suc (fun k => by rw [x_nextTurn]) (fun k => by rw [x_nextTurn]) ?_
      rw [z5, z6]
      refine T2_ite Iff.rfl (fun _ _ => ?_) (fun z _ => absurd rfl z)
      refine T2_suc (fun k => by rw [x_nextTurn]) (fun k => by rw [x_nextTurn]) ?_
      exact ih (ms w3 + 2 * d') hM' d' w3 0 ν1 ν2 Q1 Q2 (by rw [if_pos rfl]; exact Nat.le_refl _) hw3 hK' X1 X2 y1 y2 y3 y4 hk' (fun z => absurd rfl z) z1 z2 z3 z4 z5 z6
    have hgoM : (if go = 0 then 0 else 3) ≤ 3 := by split <;> omega
    rw [← c1]
    rcases c6 with ⟨z0, z1, z2⟩ | ⟨z0, w3, hw3, hK3, it3⟩ | ⟨z0, z1, z2⟩
    · rw [z1, z2, z0] at *
      obtain ⟨x1, x2⟩ := EI_e hK
      rw [x1, x2]
      refine T2_ite Iff.rfl (fun _ _ => ?_) (fun z _ => absurd rfl z)
      refine T2_ite Iff.rfl (fun _ _ => ?_) (fun z _ => absurd rfl z)
      refine T2_ob (E_dropIter (q := base + d) hK W1 W2 (by omega) p3) (fun y1 y2 hy => ?_)
      obtain ⟨u1, u2, u3, u4, u5, u6, u7⟩ := hy
      refine four0 d w2 y1.2 y2.2 _ _ (by omega) ?_ (by omega) (by omega) u1 u2 u3 (FC_tr g1 (FC_mo (fun i hi => Or.inl hi) u4)) (FC_tr g2 (FC_mo (fun i hi => Or.inl hi) u5)) u6 (u7 _ (Nat.le_refl _) (ItS_mo pit (by omega))) k1 l1 k2 l2 rfl rfl
      have u3 := hm1 w' w2 hw2
      rcases hdc with y | ⟨y, y'⟩
      · omega
      · rw [if_neg y] at hM; omega
    · rw [z0]
      refine T2_ite Iff.rfl (fun z _ => absurd z (by decide)) (fun _ _ => ?_)
      refine T2_suc (fun k => by rw [x_nextTurn]) (fun k => by rw [x_nextTurn]) ?_
      refine T2_ite (c1 := (1 : Int32) = 0) (c2 := (1 : Int32) = 0) Iff.rfl (fun z _ => absurd z (by decide)) (fun _ _ => ?_)
      show T2 (fun k => if ¬ (nI e' < 0 ∨ 70000 ≤ (nI e').toNatClampNeg) then _ else _) (fun k => if ¬ (nI e' < 0 ∨ 70000 ≤ (nI e').toNatClampNeg) then _ else _) _
      refine T2_chk (n_in (by omega) (by omega)) (n_in (by omega) (by omega)) ?_
      show T2 (fun k => if s1.2.2.2 9 (nI e').toNatClampNeg = -1 then _ else _) (fun k => if s2.2.2.2 9 (nI e').toNatClampNeg = -1 then _ else _) _
      rw [n_cl (p := e') (by omega), S1'.1.1.1 9 _ (by omega) (by omega) (by omega), S2'.1.1.1 9 _ (by omega) (by omega) (by omega)]
      have p3' : s1.2.2.2 30 3 = nI (base + d + 1) := by rw [FC_30 c2 (by unfold Zn; omega) (by omega)]; exact p3
      refine T2_ite Iff.rfl (fun z _ => ?_) (fun z _ => ?_)
      · have kz := (ItL_9 hLe).mp z
        have ek : base + d + 1 = base + kk := by omega
        rw [ek] at p3' it3
        exact T2_some ⟨rfl, g1', g2', c4, c5, Or.inl ⟨rfl, w3, by omega, hK3, p3', it3⟩⟩
      · refine T2_suc (fun k => by rw [x_nextTurn]) (fun k => by rw [x_nextTurn]) ?_
        have kz : ¬ kk - d - 1 = 0 := fun y => z ((ItL_9 hLe).mpr y)
        have w36 := EI_w hK3
        have u1 := hm2 w2 (by omega)
        have u2 := hm1 (w2 + 1) w3 (by omega)
        have u3 := hm1 w' w2 hw2
        exact ih (ms w3 + 2 * (d + 1) + 3) (by omega) (d + 1) w3 1 s1.2 s2.2 _ _ (by rw [if_neg (by decide)]; exact Nat.le_refl _) (by omega) hK3 c4 c5 g1' g2' p3' it3 (by omega) (fun _ => by omega) k1 l1 k2 l2 rfl rfl
    · rw [z0]
      refine T2_ite Iff.rfl (fun _ _ => ?_) (fun z _ => absurd rfl z)
      refine T2_ite ⟨fun z => absurd z (EZ_e z1), fun z => absurd z (EZ_e z2)⟩ (fun z _ => absurd z (EZ_e z1)) (fun _ _ => ?_)
      refine T2_suc (fun k => by rw [x_nextTurn]) (fun k => by rw [x_nextTurn]) ?_
      refine T2_ite (c1 := (0 : Int32) = 0) (c2 := (0 : Int32) = 0) Iff.rfl (fun _ _ => ?_) (fun z _ => absurd rfl z)
      refine T2_suc (fun k => by rw [x_nextTurn]) (fun k => by rw [x_nextTurn]) ?_
      exact zend _ _ _ _ t (by omega) g1' g2' c4 c5 z1 z2
  refine T2_suc (fun k => by rw [x_nextTurn]) (fun k => by rw [x_nextTurn]) ?_
  rw [e1, e2, n4, o4]
  refine T2_ite Iff.rfl (fun _ _ => ?_) (fun z _ => absurd rfl z)
  refine T2_ob (E_sw (by omega) (by omega) hJ) (fun r1 r2 hr => ?_)
  obtain ⟨k1, k2, gA, lA, BA, hA, XA, gB, lB, BB, hB, XB, hX, rm1, rm2⟩ := hr
  have g1 := FC_tr f1 (FC_fe k1)
  have g2 := FC_tr f2 (FC_fe k2)
  have W1 := UT_fe k1 V1
  have W2 := UT_fe k2 V2
  have hK : EI t w' XC r1.2 r2.2 := ⟨gA, lA, BA, hA, XA, gB, lB, BB, hB, XB, hX⟩
  have p3 : r1.2.2.2 30 3 = nI (base + c) := by rw [k1.2.1 30 3 (by unfold AlR; omega) (by unfold Zn; omega) (by omega)]; exact h3
  have q3 : r2.2.2.2 30 3 = nI (base + c) := (hX.2.2.1.2.1 30 3 (by unfold AlR; omega) (by unfold Zn; omega) (InA_4 (by omega))).symm.trans p3
  have pit := ItS_fs (FS_fe k1) h3 (by omega) (Nat.le_refl _) hIt
  have S1 := Sc1_fc hS g1 (fun i => Inx_ct)
  have S2 := Sc1_fc hS2 g2 (fun i => Inx_ct)
  have ec : nI (base + c) - nI base = nI c := (n_sub (by omega) (by omega)).trans (by rw [show base + c - base = c by omega])
  refine T2_chk (by decide) (by decide) ?_
  rw [show (3 : Int32).toNatClampNeg = 3 from by decide, p3, q3, n2, o2, ec, n1, o1]
  refine T2_ite Iff.rfl (fun z0 _ => ?_) (fun z0 _ => ?_)
  · refine T2_suc (fun k => by rw [x_nextTurn]) (fun k => by rw [x_nextTurn]) ?_
    show T2 (fun k => if nI c = 0 then _ else _) (fun k => if nI c = 0 then _ else _) _
    refine T2_ite Iff.rfl (fun z _ => ?_) (fun z _ => ?_)
    · have c0 : c = 0 := (n_eq (q := 0) (by omega) (by decide)).mp z
      subst c0
      exact T2_some ⟨rfl, g1, g2, W1, W2, Or.inr (Or.inl ⟨rfl, w', hw, hK, p3, pit⟩)⟩
    · obtain ⟨d, rfl⟩ : ∃ d, c = d + 1 := ⟨c - 1, by
        have : c ≠ 0 := fun e => z (by rw [e]; rfl)
        omega⟩
      refine three d w' r1.2 r2.2 _ _ (by omega) (Nat.le_refl _) (Or.inl (Nat.le_refl _)) g1 g2 W1 W2 hK ?_ ?_ p3 pit n1 o1 n2 o2 rfl rfl
      · exact ⟨BA, hA, hX.1.1.1, by have := hX.1.1.2.1; omega, hX.1.1.2.2.1, by omega⟩
      · exact ⟨BB, hB, hX.2.1.1.1, by have := hX.2.1.1.2.1; omega, hX.2.1.1.2.2.1, by omega⟩
  · refine T2_ob (T2_t (s_iterOf (x := 0) S1.1.1.1 hm hL (hgo z0) rfl rfl (by omega)) (s_iterOf (x := 0) S2.1.1.1 hm hL (hgo z0) rfl rfl (by omega))) (fun a b hab => ?_)
    obtain ⟨⟨a2, an, e, ae, he, ⟨qn, q1, q2, hN⟩, hWe, hLe⟩, b2, bn, _⟩ := hab
    have be : b.1 = nI e := bn.trans (an.symm.trans ae)
    rw [a2, b2, ae, be]
    have hK' : EI t w' XC' r1.2 r2.2 := EIx_up hX hXC'.1 (by omega) (by omega)
    refine T2_ob (T2_and (E_openFor (q := base + c) (by omega) (by omega) S1 hK W1 W2 he hWe (by have := hgo z0; omega) p3 pit rfl rfl) (E_openFor (q := base + c) hXC'.2.1 (by omega) S1 hK' W1 W2 he hWe (by have := hgo z0; omega) p3 pit rfl rfl)) (fun s1 s2 hs => ?_)
    obtain ⟨⟨c1, c2, c3, c4, c5⟩, ⟨_, _, _, _, c6⟩⟩ := hs
    have y1 : FCt (Inx base) σ1 s1.2 := FC_tr g1 (FC_mo (fun i hi => by unfold Inx; omega) c1)
    have y2 : FCt (Inx base) σ2 s2.2 := FC_tr g2 (FC_mo (fun i hi => by unfold Inx; omega) c2)
    rcases c5 with ⟨w2, hw2, hK2, v3, v4⟩ | ⟨z1, z2⟩
    · obtain ⟨x1, x2⟩ := EI_e hK2
      have rm : Rm R s1.2 ∧ Rm R s2.2 := by
        rcases c6 with ⟨w3, hw3, hK3, _, _⟩ | ⟨z1, z2⟩
        · obtain ⟨t1, t2⟩ := EI_rm hK3
          exact ⟨Rm_mo hXC'.2.2.1 t1, Rm_mo hXC'.2.2.1 t2⟩
        · exact absurd x1 (EZ_e z1)
      rw [x1, x2]
      refine T2_ite Iff.rfl (fun _ _ => ?_) (fun z _ => absurd (by decide) z)
      rw [n_add1]
      exact three c w2 s1.2 s2.2 _ _ (hgo z0) hw2 (Or.inr ⟨z0, Nat.le_refl _⟩) y1 y2 c3 c4 hK2 rm.1 rm.2 v3 v4 n1 o1 n2 o2 rfl rfl
    · refine T2_ite ⟨fun z => absurd z (EZ_le z1), fun z => absurd z (EZ_le z2)⟩ (fun z _ => absurd z (EZ_le z1)) (fun _ _ => ?_)
      exact T2_some ⟨rfl, y1, y2, c3, c4, Or.inr (Or.inr ⟨rfl, z1, z2⟩)⟩
theorem xc_st (h : XC ≤ 401000) : ∃ R XC', XC - 400000 + 15 ≤ R ∧ R ≤ 79900 ∧ XC ≤ XC' ∧ XC' ≤ 402000 ∧ R ≤ XC' - 400000 + 10 ∧ XC' - 400000 + 10 ≤ 79900 := ⟨2000, 401990, by omega, by omega, by omega, by omega, by omega, by omega⟩
/-- the next turn -/
theorem E_nextTurn {c : Nat} {go : Int32} (hXC : XC ≤ 401000) (ht : t ≤ w + 17000) (hm : (1 ≤ m ∧ m < LNo T % 70001)) (hL : ItL T FN lc cn kk (T 5 m)) (hkk : 1 ≤ kk ∧ kk ≤ 60) (hb : base + kk ≤ 3100) (hS : Sc1 T FN lc cn σ1) (hI : EI t w XC σ1 σ2) (U1 : UT σ1) (U2 : UT σ2) (h3 : σ1.2.2 30 3 = nI (base + c)) (hIt : ItS σ1 (base + c)) (hc : c ≤ kk) (hgo : ¬ go = 0 → c < kk) {L1 L2 : Nat → Int32} (n1 : L1 1 = nI m) (o1 : L2 1 = nI m) (n2 : L1 2 = nI base) (o2 : L2 2 = nI base) (n3 : L1 3 = go) (o3 : L2 3 = go) : T2 (fun k => x_nextTurn k 0 L1 σ1) (fun k => x_nextTurn k 0 L2 σ2) (NTq t w XC base kk σ1 σ2) := by
  obtain ⟨ms, hm1, hm2⟩ := ms_ex 100
  obtain ⟨R, XC', h1, h2, h4⟩ := xc_st hXC
  refine T2_suc (fun k => by rw [x_nextTurn]) (fun k => by rw [x_nextTurn]) ?_
  exact E_nextTurn0 hm1 (fun a ha => hm2 a ha) h1 h2 h4 hXC ht hm hL hkk hb hS (Sc1_ei hS hI) _ c w go σ1 σ2 _ _ (Nat.le_refl _) (Nat.le_refl _) hI U1 U2 FC_rf FC_rf h3 hIt hc hgo n1 o1 n2 o2 n3 o3
end NXT
