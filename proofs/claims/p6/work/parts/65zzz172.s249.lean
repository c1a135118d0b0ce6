/-! Statements on both sides (reference): what is done behind a statement. -/
/-- numbers of a place -/
def PlA (T : Nat → Nat → Int32) (S : Nat → Nat → Nat → Nat → Prop) (A : Nat → Int32) (c un d v n : Nat) (F : List Nat) : Prop := c ≤ 50 ∧ A 1 = nI c ∧ LVs T S A c un d v n F ∧ A 2 = nI F.length ∧ FSk T A F ∧ A 3 = nI (suI T F) ∧ F.length ≤ 1050
theorem PlA_c {T : Nat → Nat → Int32} {S : Nat → Nat → Nat → Nat → Prop} {A A' : Nat → Int32} {c un d v n : Nat} {F : List Nat} (h : PlA T S A c un d v n F) (e : ∀ i, i < 4 ∨ (64 ≤ i ∧ i < 214) ∨ (3214 ≤ i ∧ i < 5314) → A' i = A i) : PlA T S A' c un d v n F := by
  obtain ⟨h1, h2, h3, h4, h5, h6, h7⟩ := h
  exact ⟨h1, (e 1 (by omega)).trans h2, LVs_c h1 (fun i a b => e i (by omega)) h3, (e 2 (by omega)).trans h4, FSk_c h7 (fun i a b => e i (by omega)) h5, (e 3 (by omega)).trans h6, h7⟩
/-- the points: each is a place, of a statement that makes one -/
def PtQ (T : Nat → Nat → Int32) (S : Nat → Nat → Nat → Nat → Prop) (σ : MS) : Prop := ∀ p, p < (σ.1 63).toNatClampNeg → ∃ c un d v n F, PlA T S (fun i => σ.2.2 31 (11514 * p + i)) c un d v n F ∧ σ.2.2 31 (11514 * p + 0) = nI n ∧ (T 4 n = 44 ∨ T 4 n = 46)
theorem PtQ_fc {T : Nat → Nat → Int32} {S : Nat → Nat → Nat → Nat → Prop} {I : Nat → Prop} {σ ρ : MS} (h : PtQ T S σ) (f : FCt I σ ρ) : PtQ T S ρ := by
  have e : ∀ p i, i < 4 ∨ (64 ≤ i ∧ i < 214) ∨ (3214 ≤ i ∧ i < 5314) → ρ.2.2 31 (11514 * p + i) = σ.2.2 31 (11514 * p + i) := fun p i hi => f.2.1 31 _ (by unfold AlR; omega) (by unfold Zn; omega) (by omega) (by omega)
  intro p hp
  rw [f.1 63 (by unfold AlS; omega) (by omega) (by omega) (by omega) (by omega)] at hp
  obtain ⟨c, un, d, v, n, F, h1, h2, h3⟩ := h p hp
  exact ⟨c, un, d, v, n, F, PlA_c h1 (fun i hi => e p i hi), (e p 0 (by omega)).trans h2, h3⟩
/-- how much is put out -/
def Ou6 (σ : MS) : Prop := ∃ o, σ.1 106 = nI o ∧ o ≤ 2000000000
theorem Ou6_fc {I : Nat → Prop} {σ ρ : MS} (h : Ou6 σ) (f : FCt I σ ρ) : Ou6 ρ := by
  obtain ⟨o, o1, o2⟩ := h
  exact ⟨o, (f.1 106 (by unfold AlS; omega) (by omega) (by omega) (by omega) (by omega)).trans o1, o2⟩
/-- midway in a statement -/
def Mid (T : Nat → Nat → Int32) (FN : Nat → Nat → Prop) (S : Nat → Nat → Nat → Nat → Prop) (t w XC : Nat) (σ1 σ2 τ1 τ2 : MS) : Prop := EI t w XC τ1 τ2 ∧ UT τ1 ∧ UT τ2 ∧ Bs T FN τ1 ∧ Bs T FN τ2 ∧ (∀ j, j = 103 ∨ j = 104 ∨ j = 110 ∨ j = 68 → τ1.1 j = σ1.1 j ∧ τ2.1 j = σ2.1 j) ∧ PtQ T S τ1 ∧ Ou6 τ1
/-- behind a statement -/
def OuQ (T : Nat → Nat → Int32) (FN : Nat → Nat → Prop) (S : Nat → Nat → Nat → Nat → Prop) (t w XC : Nat) (σ1 σ2 r1 r2 : MS) : Prop := (∃ w', w ≤ w' ∧ Mid T FN S t w' XC σ1 σ2 r1 r2 ∧ (CTn T S r1 ∨ r1.1 102 = 1)) ∨ ((UT r1 ∧ UT r2 ∧ Bs T FN r1 ∧ Bs T FN r2 ∧ ∀ j, j = 103 ∨ j = 104 ∨ j = 110 ∨ j = 68 → r1.1 j = σ1.1 j ∧ r2.1 j = σ2.1 j) ∧ EZ t 179400 r1 ∧ EZ t 179400 r2)
section MDS
variable {T : Nat → Nat → Int32} {FN : Nat → Nat → Prop} {S : Nat → Nat → Nat → Nat → Prop} {t w w' XC : Nat} {σ1 σ2 τ1 τ2 r1 r2 : MS} {I : Nat → Prop}
theorem kp_fc (h : ∀ j, j = 103 ∨ j = 104 ∨ j = 110 ∨ j = 68 → τ1.1 j = σ1.1 j ∧ τ2.1 j = σ2.1 j) (f1 : FCt I τ1 r1) (f2 : FCt I τ2 r2) : ∀ j, j = 103 ∨ j = 104 ∨ j = 110 ∨ j = 68 → r1.1 j = σ1.1 j ∧ r2.1 j = σ2.1 j := fun j hj => ⟨(f1.1 j (by unfold AlS; omega) (by omega) (by omega) (by omega) (by omega)).trans (h j hj).1, (f2.1 j (by unfold AlS; omega) (by omega) (by omega) (by omega) (by omega)).trans (h j hj).2⟩
theorem Mid_fc {t0 XC0 : Nat} (h : Mid T FN S t0 w XC0 σ1 σ2 τ1 τ2) (f1 : FCt I τ1 r1) (f2 : FCt I τ2 r2) (hE : EI t w' XC r1 r2) (V1 : UT r1) (V2 : UT r2) : Mid T FN S t w' XC σ1 σ2 r1 r2 := ⟨hE, V1, V2, Bs_fc h.2.2.2.1 f1, Bs_fc h.2.2.2.2.1 f2, kp_fc h.2.2.2.2.2.1 f1 f2, PtQ_fc h.2.2.2.2.2.2.1 f1, Ou6_fc h.2.2.2.2.2.2.2 f1⟩
theorem OuQ_z {b t0 XC0 : Nat} (h : Mid T FN S t0 w' XC0 σ1 σ2 τ1 τ2) (f1 : FCt I τ1 r1) (f2 : FCt I τ2 r2) (V1 : UT r1) (V2 : UT r2) (hb : b ≤ 179400) (z1 : EZ t b r1) (z2 : EZ t b r2) : OuQ T FN S t w XC σ1 σ2 r1 r2 := Or.inr ⟨⟨V1, V2, Bs_fc h.2.2.2.1 f1, Bs_fc h.2.2.2.2.1 f2, kp_fc h.2.2.2.2.2.1 f1 f2⟩, EZ_mo z1 (Nat.le_refl _) hb, EZ_mo z2 (Nat.le_refl _) hb⟩
/-- the place is told: both go on there -/
theorem Mid_0 {x : Int32} (h : Mid T FN S t w XC σ1 σ2 τ1 τ2) : Mid T FN S t w XC σ1 σ2 (mAr τ1 30 0 x) (mAr τ2 30 0 x) := Mid_fc (I := fun i => i = 0) h (FC_w rfl) (FC_w rfl) (EI_c30 (by unfold Zn; omega) h.1) (UT_c30 (by unfold Zn; omega) (EI_B h.1).1 h.2.1) (UT_c30 (by unfold Zn; omega) (EI_B h.1).2 h.2.2.1)
theorem OuQ_0 (hW : SWf T FN S) {c un d v n : Nat} {F : List Nat} (hw : w ≤ w') (h : Mid T FN S t w' XC σ1 σ2 τ1 τ2) (hP : Pos T S c un d v n F τ1) : OuQ T FN S t w XC σ1 σ2 (mAr τ1 30 0 (nI n)) (mAr τ2 30 0 (nI n)) := Or.inl ⟨w', hw, Mid_0 h, Or.inl ⟨c, un, d, v, n, F, Pos_0 hW hP, by rw [mAr_s, upd_same]⟩⟩
end MDS
/-- within the block of x (-1: of a unit) -/
def InP (T : Nat → Nat → Int32) (S : Nat → Nat → Nat → Nat → Prop) (c un d : Nat) (x : Int32) (F : List Nat) (σ : MS) : Prop := c ≤ 50 ∧ σ.2.2 30 1 = nI c ∧ σ.2.2 30 2 = nI F.length ∧ FSk T (σ.2.2 30) F ∧ σ.2.2 30 3 = nI (suI T F) ∧ ItS σ (suI T F) ∧ F.length ≤ 1020 ∧ suI T F ≤ 3060 ∧ ((x = -1 ∧ d = 0 ∧ (c = 0 ∨ ∃ j pr un0 d0 v0 n0, c = j + 1 ∧ un = 1 + pr ∧ pr < 41 ∧ σ.2.2 30 (64 + 3 * j) = nI n0 ∧ σ.2.2 30 (65 + 3 * j) = nI pr ∧ σ.2.2 30 (66 + 3 * j) = nI F.length ∧ T 4 n0 = 45 ∧ T 7 n0 = nI pr ∧ LVs T S (σ.2.2 30) j un0 d0 v0 n0 F)) ∨ ∃ m d' v' F', x = nI m ∧ d = d' + 1 ∧ LVs T S (σ.2.2 30) c un d' v' m F' ∧ F = (if T 4 m = 48 then m :: F' else F') ∧ (T 4 m = 46 ∨ T 4 m = 47 ∨ T 4 m = 48))
theorem Pos_in {T : Nat → Nat → Int32} {FN : Nat → Nat → Prop} {S : Nat → Nat → Nat → Nat → Prop} {c un d v n : Nat} {F : List Nat} {σ : MS} (hW : SWf T FN S) (hP : Pos T S c un d v n F σ) : InP T S c un d (upN T n) F σ := by
  obtain ⟨_, _, _, b3, b4⟩ := Pos_b hW hP
  obtain ⟨h1, h2, h3, h4, h5, h6, h7⟩ := hP
  have hS := LVs_S h3
  obtain ⟨_, _, _, hu, _, _⟩ := hW un d v n hS
  refine ⟨h1, h2, h4, h5, h6, h7, b3, b4, ?_⟩
  rcases hu with ⟨um, d0⟩ | ⟨m, d', v', um, ed, hSm, hvm, km⟩
  · refine Or.inl ⟨um, d0, ?_⟩
    cases c with
    | zero => exact Or.inl rfl
    | succ j =>
      obtain ⟨_, pr, un0, dd0, vv0, n0, F0, g1, g2, g3, g4, g5, g6, g7, g8, g9⟩ := h3
      have eF : F = F0 := by rw [g8, d0]; rfl
      subst eF
      exact Or.inr ⟨j, pr, un0, dd0, vv0, n0, rfl, g1, g2, g3, g4, g5, g6, g7, g9⟩
  · subst ed
    obtain ⟨⟨m7, _⟩, _⟩ := hW un d' v' m hSm
    obtain ⟨F', hL', eF⟩ := LVs_up m7 h3 um hSm
    exact Or.inr ⟨m, d', v', F', um, rfl, hL', eF, km⟩
section DON
variable {T : Nat → Nat → Int32} {FN : Nat → Nat → Prop} {S : Nat → Nat → Nat → Nat → Prop} {t w XC : Nat} {σ1 σ2 : MS}
/-- what is around a statement is done -/
theorem E_done (hW : SWf T FN S) (hXC : XC ≤ 401000) (ht : t + 9 + KBn T ≤ w + 17000) {c un d w' : Nat} {x : Int32} {F : List Nat} {τ1 τ2 : MS} (hw : w ≤ w') (hM : Mid T FN S t w' XC σ1 σ2 τ1 τ2) (hP : InP T S c un d x F τ1) {L1 L2 : Nat → Int32} (d1 : L1 1 = x) (d2 : L2 1 = x) : T2 (fun k => x_done k 0 L1 τ1) (fun k => x_done k 0 L2 τ2) (fun r1 r2 => r1.1 = r2.1 ∧ ((r1.1 = -1 ∧ OuQ T FN S t w XC σ1 σ2 r1.2 r2.2) ∨ ∃ c' un' d' v' n' F' w2, r1.1 = nI n' ∧ w ≤ w2 ∧ Mid T FN S t w2 XC σ1 σ2 r1.2 r2.2 ∧ Pos T S c' un' d' v' n' F' r1.2 ∧ 21 * c' + d' < 21 * c + d)) := by
  obtain ⟨hE, U1, U2, B1, B2, kp⟩ := id hM
  have w6 := EI_w hE
  obtain ⟨hc5, hc, h2, hF, h3, hIt, pb3, pb4, hu⟩ := id hP
  obtain ⟨e1, e2⟩ := EI_e hE
  refine T2_suc (fun k => by rw [x_done]) (fun k => by rw [x_done]) ?_
  rw [e1, e2]
  refine T2_ite Iff.rfl (fun _ _ => ?_) (fun z _ => absurd (by decide) z)
  refine T2_suc (fun k => by rw [x_done]) (fun k => by rw [x_done]) ?_
  rw [d1, d2]
  rcases hu with ⟨um, d0, hu⟩ | ⟨m, d', v', F', um, ed, hL', eF, km⟩
  · -- the end of a unit
    rw [um]
    refine T2_ite Iff.rfl (fun _ _ => ?_) (fun z _ => absurd rfl z)
    refine T2_chk (by decide) (by decide) ?_
    rw [show (1 : Int32).toNatClampNeg = 1 from by decide, EI_30 hE (i := 1) (by unfold Zn; omega) (InA_4 (by omega)), hc]
    refine T2_ite Iff.rfl (fun z _ => ?_) (fun z _ => ?_)
    · refine T2_suc (fun k => by rw [x_done]) (fun k => by rw [x_done]) ?_
      refine T2_suc (fun k => by rw [x_done]) (fun k => by rw [x_done]) ?_
      have bs : ∀ σ : MS, Bs T FN σ → Bs T FN (mSc σ 102 1) := fun σ h => ⟨h.1, h.2.1, h.2.2.1, h.2.2.2.1, h.2.2.2.2.1, h.2.2.2.2.2⟩
      refine T2_some ⟨rfl, Or.inl ⟨rfl, Or.inl ⟨w', hw, ⟨EI_s (by omega) hE, UT_c U1 rfl rfl rfl rfl, UT_c U2 rfl rfl rfl rfl, bs _ B1, bs _ B2, fun j hj => ?_, kp.2⟩, Or.inr rfl⟩⟩⟩
      have := kp.1 j hj
      exact ⟨(upd_other (by omega)).trans this.1, (upd_other (by omega)).trans this.2⟩
    · have cp : 1 ≤ c := by
        by_cases y : c = 0
        · exact absurd ((n_le0 (by omega)).mpr y) z
        · omega
      obtain ⟨j, pr, un0, dd0, vv0, n0, ec, g1, g2, g3, g4, g5, g6, g7, g9⟩ := hu.resolve_left (by omega)
      subst ec
      have hS0 := LVs_S g9
      obtain ⟨⟨n07, _, dd20, _⟩, _, _, _, _, h45⟩ := hW un0 dd0 vv0 n0 hS0
      obtain ⟨pr', np, ns, y1, y2, y3, y4, y5, y6, y7, y8, y9⟩ := h45 g6
      have epr : pr' = pr := (n_eq (by omega) (by omega)).mp (y2.symm.trans g7)
      subst epr
      refine T2_ob (E_giveBack (x := 0) (y := 0) (G := []) (F0 := F) (l2 := j) (n0 := n0) (un0 := un0) (by omega) (by omega) B1 B2 hE U1 U2 (by omega) hc g3 g4 g5 n07 y1 y4 y6 y3 y5 y7 (show F.length ≤ 1050 by omega) (show suI T F ≤ 3100 by omega) (fun m hm => absurd hm (List.not_mem_nil)) h2 hF h3 hIt (LVs_u g9) y8 y9 (fun ρ1 ρ2 hJ _ _ => EI_pu0 (by omega) hJ) rfl rfl) (fun r1 r2 hr => ?_)
      obtain ⟨c1, c2, c3, c4, c5, c6⟩ := hr
      refine T2_some ⟨c1, ?_⟩
      rcases c6 with ⟨z1, w2, hw2, hK, k1, k2, k3, k4⟩ | ⟨z1, z2, z3⟩
      · refine Or.inr ⟨j, un0, dd0, vv0, n0, F, w2, z1, by omega, Mid_fc hM c2 c3 hK c4 c5, ⟨by omega, k1, LVs_c (by omega) (fun i h1 h2 => FC_30 c2 (by unfold Zn; omega) (by omega)) g9, k2, FSk_c (by omega) (fun i h1 h2 => FC_30 c2 (by unfold Zn; omega) (by omega)) hF, k3, k4⟩, by omega⟩
      · exact Or.inl ⟨z1, OuQ_z hM c2 c3 c4 c5 (Nat.le_refl _) z2 z3⟩
  · subst ed
    have hSm := LVs_S hL'
    obtain ⟨⟨m7, vm6, dm20, _⟩, _, _, _, h48, _⟩ := hW un d' v' m hSm
    have hSc := Sc1_lv B1 hc hc5 (LVs_u hL')
    have r4 := B1.1.1 4 m (by omega) (by omega) (by omega)
    have B2' := B2.1.1 4 m (by omega) (by omega) (by omega)
    rw [um]
    refine T2_ite Iff.rfl (fun z _ => absurd z (ne_m1 m7)) (fun _ _ => ?_)
    refine T2_suc (fun k => by rw [x_done]) (fun k => by rw [x_done]) ?_
    rw [d1, d2, um]
    refine T2_chk (n_in (by omega) (by omega)) (n_in (by omega) (by omega)) ?_
    rw [n_cl (p := m) (by omega), B2', r4]
    refine T2_ite Iff.rfl (fun k47 _ => ?_) (fun k47 _ => ?_)
    · have e48 : ¬ T 4 m = 48 := by rw [k47]; decide
      rw [if_neg e48] at eF
      subst eF
      refine T2_chk (by decide) (by decide) ?_
      rw [show (0 : Int32).toNatClampNeg = 0 from by decide]
      refine T2_suc (fun k => by rw [x_done]) (fun k => by rw [x_done]) ?_
      exact T2_some ⟨rfl, Or.inl ⟨rfl, OuQ_0 hW hw hM ⟨hc5, hc, hL', h2, hF, h3, hIt⟩⟩⟩
    · refine T2_suc (fun k => by rw [x_done]) (fun k => by rw [x_done]) ?_
      rw [d1, d2, um]
      refine T2_chk (n_in (by omega) (by omega)) (n_in (by omega) (by omega)) ?_
      rw [n_cl (p := m) (by omega), B2', r4]
      refine T2_ite Iff.rfl (fun k48 _ => ?_) (fun k48 _ => ?_)
      · rw [if_pos k48] at eF
        subst eF
        obtain ⟨d19, f1, f2, f3, f4, f5⟩ := h48 k48
        have es : suI T (m :: F') = suI T F' + itn T m := Nat.add_comm _ _
        rw [es] at h3 hIt pb4
        have eb : suI T F' ≤ 60 * c + v' := (LVs_b hW hL').2
        have el : F'.length + 1 ≤ 1050 := by have : (m :: F').length = F'.length + 1 := rfl; omega
        refine T2_ob (E_seek (c := itn T m) (go := 0) (F := F') hXC (by omega) m7 f3 ⟨f1, by omega⟩ (by omega) el f4 hSc hE U1 U2 h2 hF h3 hIt (Nat.le_refl _) (fun z => absurd rfl z) rfl rfl rfl rfl) (fun r1 r2 hr => ?_)
        obtain ⟨c1, c2, c3, c4, c5, c6⟩ := hr
        refine T2_suc (fun k => by rw [x_done]) (fun k => by rw [x_done]) ?_
        refine T2_some ⟨c1, ?_⟩
        have lc : ∀ i, 64 ≤ i → i < 214 → r1.2.2.2 30 i = τ1.2.2 30 i := fun i h1 h2 => FC_30 c2 (by unfold Zn; omega) (by unfold Isk Inx; omega)
        have c11 : r1.2.2.2 30 1 = nI c := (FC_30 c2 (by unfold Zn; omega) (by unfold Isk Inx; omega)).trans hc
        have fk : ∀ i, 3214 ≤ i → i < 5314 → r1.2.2.2 30 i = τ1.2.2 30 i := fun i h1 h2 => FC_30 c2 (by unfold Zn; omega) (by unfold Isk Inx; omega)
        rcases c6 with ⟨z1, z7, w2, hw2, hK, k0, k2, k3, k4⟩ | ⟨z1, w2, hw2, hK, k2, k3, k4⟩ | ⟨z1, z2, z3⟩
        · obtain ⟨b, vb, xb, hSb, hvb, ub⟩ := f5.resolve_left z7
          have hD := LVs_dn m7 hL' ub hSb
          rw [if_pos k48] at hD
          refine Or.inl ⟨z1, Or.inl ⟨w2, by omega, Mid_fc hM c2 c3 hK c4 c5, Or.inl ⟨c, un, d' + 1, vb, b, m :: F', ⟨hc5, c11, LVs_c hc5 lc hD, k2, FSk_c el fk hF, by rw [es]; exact k3, by rw [es]; exact k4⟩, k0.trans xb⟩⟩⟩
        · exact Or.inr ⟨c, un, d', v', m, F', w2, z1, by omega, Mid_fc hM c2 c3 hK c4 c5, ⟨hc5, c11, LVs_c hc5 lc hL', k2, FSk_c (by omega) fk hF.2, k3, k4⟩, by omega⟩
        · exact Or.inl ⟨z1, OuQ_z hM c2 c3 c4 c5 (by omega) z2 z3⟩
      · rw [if_neg k48] at eF
        subst eF
        refine T2_suc (fun k => by rw [x_done]) (fun k => by rw [x_done]) ?_
        refine T2_suc (fun k => by rw [x_done]) (fun k => by rw [x_done]) ?_
        rw [d1, d2, um]
        exact T2_some ⟨rfl, Or.inr ⟨c, un, d', v', m, F, w', rfl, hw, hM, ⟨hc5, hc, hL', h2, hF, h3, hIt⟩, by omega⟩⟩
end DON
