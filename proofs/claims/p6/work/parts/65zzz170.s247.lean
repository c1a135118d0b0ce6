/-! Statements on both sides (reference): units; a call gives back. -/
/-- slots that count, by unit -/
def cnU (un : Nat) (T : Nat → Nat → Int32) (j : Nat) : Prop := (1 ≤ j ∧ j ≤ 60 ∧ ¬ T 20 (j - 1) = 0) ∨ (¬ un = 0 ∧ 61 ≤ j ∧ j ≤ 120 ∧ ¬ T 20 (60 * un + (j - 61)) = 0)
/-- tables, and nothing open -/
def Bs (T : Nat → Nat → Int32) (FN : Nat → Nat → Prop) (σ : MS) : Prop := STb T FN σ ∧ (∀ a i, 17 ≤ a → a ≤ 21 → (a ≠ 20 ∧ (a ≤ 18 → i < CNo T % 42) ∧ (a = 19 → i < 8 * (CNo T % 42) ∧ i % 8 < (T 18 (i / 8)).toNatClampNeg) ∧ (a = 21 → i ≤ CNo T % 42)) → σ.2.2 a i = T a i) ∧ σ.1 67 = 0 ∧ σ.1 97 = 0 ∧ σ.1 72 = 0 ∧ σ.1 69 = 0 ∧ ∀ i, kC σ i = T 20 i
/-- the unit of the last call -/
def LvU (A : Nat → Int32) (c un : Nat) : Prop := (c = 0 ∧ un = 0) ∨ ∃ pr, 1 ≤ c ∧ un = 1 + pr ∧ pr < 41 ∧ A (65 + 3 * (c - 1)) = nI pr
section UNI
variable {T : Nat → Nat → Int32} {FN : Nat → Nat → Prop} {σ ρ σ1 σ2 : MS} {c un t w XC : Nat}
theorem Sc1_lv (hB : Bs T FN σ) (hc : σ.2.2 30 1 = nI c) (h5 : c ≤ 50) (hL : LvU (σ.2.2 30) c un) : Sc1 T FN (lcU un T) (cnU un T) σ := by
  obtain ⟨b1, b2, b3, b4, b5, b6, b7⟩ := hB
  have r20 : kC σ = T 20 := funext b7
  refine ⟨⟨b1, b3, by omega, b4, by omega, b5, ⟨c, hc, h5, fun z => Or.inr ⟨b6, ?_⟩, fun s hs z => ?_, fun s hs z _ h1 => ?_⟩, Or.inl b6⟩, b6, fun s hs z => ?_, fun s c' hs z h1 h2 h3 => ?_⟩
  · have un0 : ¬ un = 0 := by
      rcases z with z | z | z | z
      · exact z.2
      · omega
      · exact z.1
      · omega
    rcases hL with z | ⟨pr, z, _⟩
    · exact absurd z.2 un0
    · exact z
  · rw [r20]
    rcases z with z | z | z | z
    · omega
    · rw [show s = 1 + s - 1 by omega]; exact z.2.2.2
    · omega
    · omega
  · rw [r20]
    rcases z with z | z | z | z
    · omega
    · omega
    · rcases hL with y | ⟨pr, _, y2, y3, y4⟩
      · exact absurd y.2 z.1
      · rw [y4, n_cl (p := pr) (by omega)]
        have := z.2.2.2
        rw [y2, show 61 + s - 61 = s by omega] at this
        exact this
    · omega
  · rw [r20]
    rcases z with z | z
    · have := z.2.2
      rw [show 1 + s - 1 = s by omega] at this
      exact this
    · omega
  · rw [r20]
    have ec : c' = c := (n_eq (by omega) (by omega)).mp (h1.symm.trans hc)
    subst ec
    rcases z with z | z
    · omega
    · rcases hL with y | ⟨pr, _, y2, y3, y4⟩
      · omega
      · rw [y4, n_cl (p := pr) (by omega)]
        have := z.2.2.2
        rw [y2, show 61 + s - 61 = s by omega] at this
        exact this
theorem Bs_fc {I : Nat → Prop} (h : Bs T FN σ) (hF : FCt I σ ρ) : Bs T FN ρ := by
  have row : ∀ a, AlR a → (∀ i, ¬ Zn a i) → a ≠ 35 → a ≠ 50 → a ≠ 30 → ρ.2.2 a = σ.2.2 a := fun a h1 h2 h3 h4 h5 => by
    funext i
    exact hF.2.1 a i h1 (h2 i) (fun z => by omega) (fun z => h5 z.1)
  have sc : ∀ j, j = 67 ∨ j = 97 ∨ j = 72 ∨ j = 69 → ρ.1 j = σ.1 j := fun j hj => hF.1 j (by unfold AlS; omega) (by omega) (by omega) (by omega) (by omega)
  obtain ⟨b0, b2, b3, b4, b5, b6, b7⟩ := h
  refine ⟨STb_b b0 (fun j hj => hF.1 j (by unfold AlS; omega) (by omega) (by omega) (by omega) (by omega)) (fun a i q => hF.2.1 a i (by unfold AlR; omega) (by unfold Zn; omega) (fun z => by omega) (fun z => by omega)), fun a i h1 h2 h3 => ?_, (sc 67 (by omega)).trans b3, (sc 97 (by omega)).trans b4, (sc 72 (by omega)).trans b5, (sc 69 (by omega)).trans b6, fun i => (kC_c (fun i => hF.2.1 20 i (by unfold AlR; omega) (by unfold Zn; omega) (fun z => by omega) (fun z => by omega)) (fun i _ => hF.2.1 21 i (by unfold AlR; omega) (by unfold Zn; omega) (fun z => by omega) (fun z => by omega)) (hF.1 30 (by unfold AlS; omega) (by omega) (by omega) (by omega) (by omega)) i).trans (b7 i)⟩
  rw [hF.2.1 a i (by unfold AlR; omega) (by unfold Zn; omega) (fun z => by omega) (fun z => by omega)]; exact b2 a i h1 h2 h3
theorem EI_pu0 (ht : t < 185000) (hE : EI t w XC σ1 σ2) : EI (t + 1) w XC (mPu σ1 t 0) (mPu σ2 t 0) := by
  have p29 : ∀ (σ : MS), (mPu σ t 0).2.2 29 = upd (σ.2.2 29) t 0 := fun σ => by
    show (mAr σ 29 t _).2.2 29 = _
    rw [mAr_s]
  refine EI_pile hE (fun j hj => mPu_s hj) (fun j hj => mPu_s hj) rfl rfl (fun a ha => mPu_o ha) (fun a ha => mPu_o ha) rfl rfl (fun i hi => ?_)
  by_cases e : i = t
  · rw [e, p29, p29, upd_same, upd_same]; exact Or.inr ⟨rfl, rfl⟩
  · rw [p29, p29, upd_other e, upd_other e]; exact Or.inl ⟨i, by omega, rfl, rfl⟩
end UNI
/-- a target by its last node -/
def TgN (T : Nat → Nat → Int32) (FN : Nat → Nat → Prop) (lc cn : Nat → Prop) (x : Int32) : Prop := ∃ k ch s, x = nI (ch k) ∧ Tgt T FN lc k ch ∧ NmW T lc cn (ch 0) s ∧ kys T ch k ≤ KBn T ∧ kys T ch k ≤ 17000
/-- arguments of a call of pr, from the i-th on -/
def ArL (T : Nat → Nat → Int32) (FN : Nat → Nat → Prop) (lc cn : Nat → Prop) (pr : Nat) : Nat → Nat → Int32 → Prop
  | 0, _, x => x = -1
  | q + 1, i, x => ∃ e, x = nI e ∧ (1 ≤ e ∧ e < LNo T % 70001) ∧ (¬ T 19 (8 * pr + i) ≤ 0 → TgN T FN lc cn x) ∧ (¬ T 19 (8 * pr + i) = 1 → Wx0 T FN lc x) ∧ ArL T FN lc cn pr q (i + 1) (T 9 e)
/-- behind giveBack -/
def GBq (t w XC n0 : Nat) (τ1 τ2 : MS) (r1 r2 : Int32 × MS) : Prop := r1.1 = r2.1 ∧ FSt τ1 r1.2 ∧ FSt τ2 r2.2 ∧ UT r1.2 ∧ UT r2.2 ∧ ((r1.1 = nI n0 ∧ ∃ w', w ≤ w' ∧ EI t w' XC r1.2 r2.2) ∨ (r1.1 = -1 ∧ EZ t 179400 r1.2 ∧ EZ t 179400 r2.2))
section GBW
variable {T : Nat → Nat → Int32} {FN : Nat → Nat → Prop} {lc cn : Nat → Prop} {t w XC pr np n0 : Nat} {τ1 τ2 : MS}
/-- what a call gives back is written -/
theorem E_gbWrites (hXC : XC ≤ 402000) (ht : t + 9 + KBn T ≤ w + 17000) (hn0 : (1 ≤ n0 ∧ n0 < LNo T % 70001)) (hpr : pr < CNo T % 42) (hnp : np ≤ 8) (hS : Sc1 T FN lc cn τ1) (r19 : ∀ a i, ((a = 17 ∨ a = 18) ∧ i < CNo T % 42) ∨ (a = 19 ∧ i < 8 * (CNo T % 42) ∧ i % 8 < (T 18 (i / 8)).toNatClampNeg) → τ1.2.2 a i = T a i ∧ τ2.2.2 a i = T a i) (hI : EI (t + np + 1) w XC τ1 τ2) (U1 : UT τ1) (U2 : UT τ2) (t18 : T 18 pr = nI np) (hA : ArL T FN lc cn pr np 0 (T 6 n0)) (h5 : T 5 n0 = -1 ∨ TgN T FN lc cn (T 5 n0)) {M1 M2 : Nat → Int32} (q3 : M1 3 = nI n0) (p3 : M2 3 = nI n0) (q4 : M1 4 = nI pr) (p4 : M2 4 = nI pr) (q5 : M1 5 = nI t) (p5 : M2 5 = nI t) : T2 (fun k => x_giveBack k 10 M1 τ1) (fun k => x_giveBack k 10 M2 τ2) (GBq t w XC n0 τ1 τ2) := by
  have hS2 := Sc1_ei hS hI
  have w6 := EI_w hI
  have c30 : (τ1.1 30).toNatClampNeg = CNo T % 42 := by rw [hS.1.1.2.2.2.2.2.1, n_cl (p := CNo T % 42) (by omega)]
  have rw19 : ∀ (ρ1 ρ2 : MS), FSt τ1 ρ1 → FSt τ2 ρ2 → ∀ a i, ((a = 17 ∨ a = 18) ∧ i < CNo T % 42) ∨ (a = 19 ∧ i < 8 * (CNo T % 42) ∧ i % 8 < (T 18 (i / 8)).toNatClampNeg) → ρ1.2.2 a i = T a i ∧ ρ2.2.2 a i = T a i := fun ρ1 ρ2 f1 f2 a i h => by
    refine ⟨?_, ?_⟩
    · rw [← (r19 a i h).1]; exact f1.2.1 a i (by unfold AlR; omega) (by unfold Zn; omega) (by omega)
    · rw [← (r19 a i h).2]; exact f2.2.1 a i (by unfold AlR; omega) (by unfold Zn; omega) (by omega)
  -- the end
  have b14 : ∀ (ρ1 ρ2 : MS) (K1 K2 : Nat → Int32), FSt τ1 ρ1 → FSt τ2 ρ2 → UT ρ1 → UT ρ2 → ((∃ w', w ≤ w' ∧ EI (t + np + 1) w' XC ρ1 ρ2) ∨ (EZ (t + np + 1) 179301 ρ1 ∧ EZ (t + np + 1) 179301 ρ2)) → K1 3 = nI n0 → K2 3 = nI n0 → K1 5 = nI t → K2 5 = nI t → T2 (fun k => x_giveBack k 14 K1 ρ1) (fun k => x_giveBack k 14 K2 ρ2) (GBq t w XC n0 τ1 τ2) := by
    intro ρ1 ρ2 K1 K2 f1 f2 V1 V2 hor k3 l3 k5 l5
    have G1 : FSt τ1 (mSc ρ1 59 (nI t)) := FS_tr f1 (FS_sc (by omega))
    have G2 : FSt τ2 (mSc ρ2 59 (nI t)) := FS_tr f2 (FS_sc (by omega))
    have W1 : UT (mSc ρ1 59 (nI t)) := UT_c V1 rfl rfl rfl rfl
    have W2 : UT (mSc ρ2 59 (nI t)) := UT_c V2 rfl rfl rfl rfl
    refine T2_suc (fun k => by rw [x_giveBack]) (fun k => by rw [x_giveBack]) ?_
    rw [k5, l5]
    refine T2_suc (fun k => by rw [x_giveBack]) (fun k => by rw [x_giveBack]) ?_
    rcases hor with ⟨w', hw, hJ⟩ | ⟨z1, z2⟩
    · have hJ' := EI_dn (show t ≤ t + np + 1 by omega) hJ
      obtain ⟨e1, e2⟩ := EI_e hJ'
      show T2 (fun k => if (mSc ρ1 59 (nI t)).1 56 = 0 then x_giveBack k 17 (upd K1 100 (K1 3)) (mSc ρ1 59 (nI t)) else x_giveBack k 16 K1 (mSc ρ1 59 (nI t))) (fun k => if (mSc ρ2 59 (nI t)).1 56 = 0 then x_giveBack k 17 (upd K2 100 (K2 3)) (mSc ρ2 59 (nI t)) else x_giveBack k 16 K2 (mSc ρ2 59 (nI t))) _
      rw [e1, e2, k3, l3]
      refine T2_ite Iff.rfl (fun _ _ => ?_) (fun z _ => absurd rfl z)
      refine T2_suc (fun k => by rw [x_giveBack]) (fun k => by rw [x_giveBack]) ?_
      exact T2_some ⟨rfl, G1, G2, W1, W2, Or.inl ⟨rfl, w', hw, hJ'⟩⟩
    · have y1 : EZ t 179400 (mSc ρ1 59 (nI t)) := EZ_mo (EZ_dn (c := t) z1 (by omega) (by omega)) (Nat.le_refl _) (by omega)
      have y2 : EZ t 179400 (mSc ρ2 59 (nI t)) := EZ_mo (EZ_dn (c := t) z2 (by omega) (by omega)) (Nat.le_refl _) (by omega)
      show T2 (fun k => if (mSc ρ1 59 (nI t)).1 56 = 0 then x_giveBack k 17 (upd K1 100 (K1 3)) (mSc ρ1 59 (nI t)) else x_giveBack k 16 K1 (mSc ρ1 59 (nI t))) (fun k => if (mSc ρ2 59 (nI t)).1 56 = 0 then x_giveBack k 17 (upd K2 100 (K2 3)) (mSc ρ2 59 (nI t)) else x_giveBack k 16 K2 (mSc ρ2 59 (nI t))) _
      refine T2_ite ⟨fun z => absurd z (EZ_e y1), fun z => absurd z (EZ_e y2)⟩ (fun z _ => absurd z (EZ_e y1)) (fun _ _ => ?_)
      refine T2_suc (fun k => by rw [x_giveBack]) (fun k => by rw [x_giveBack]) ?_
      refine T2_suc (fun k => by rw [x_giveBack]) (fun k => by rw [x_giveBack]) ?_
      exact T2_some ⟨rfl, G1, G2, W1, W2, Or.inr ⟨rfl, y1, y2⟩⟩
  have b13 : ∀ (ρ1 ρ2 : MS) (K1 K2 : Nat → Int32), FSt τ1 ρ1 → FSt τ2 ρ2 → UT ρ1 → UT ρ2 → ((∃ w', w ≤ w' ∧ EI (t + np + 1) w' XC ρ1 ρ2) ∨ (EZ (t + np + 1) 179301 ρ1 ∧ EZ (t + np + 1) 179301 ρ2)) → K1 3 = nI n0 → K2 3 = nI n0 → K1 4 = nI pr → K2 4 = nI pr → K1 5 = nI t → K2 5 = nI t → T2 (fun k => x_giveBack k 13 K1 ρ1) (fun k => x_giveBack k 13 K2 ρ2) (GBq t w XC n0 τ1 τ2) := by
    intro ρ1 ρ2 K1 K2 f1 f2 V1 V2 hor k3 l3 k4 l4 k5 l5
    refine T2_suc (fun k => by rw [x_giveBack]) (fun k => by rw [x_giveBack]) ?_
    rcases hor with ⟨w', hw, hJ⟩ | ⟨z1, z2⟩
    · obtain ⟨e1, e2⟩ := EI_e hJ
      have S1 := Sc1_fs hS f1
      have S2 := Sc1_fs hS2 f2
      have r18 := rw19 ρ1 ρ2 f1 f2 18 pr (by omega)
      rw [e1, e2, k3, l3, k4, l4, k5, l5]
      refine T2_ite Iff.rfl (fun _ _ => ?_) (fun z _ => absurd rfl z)
      refine T2_chk (n_in (by omega) (by omega)) (n_in (by omega) (by omega)) ?_
      rw [n_cl (p := n0) (by omega), S1.1.1.1 5 _ (by omega) (by omega) (by omega), S2.1.1.1 5 _ (by omega) (by omega) (by omega)]
      refine T2_ite Iff.rfl (fun _ _ => b14 ρ1 ρ2 K1 K2 f1 f2 V1 V2 (Or.inl ⟨w', hw, hJ⟩) k3 l3 k5 l5) (fun z5 _ => ?_)
      obtain ⟨k, ch, s, x5, hT, hN, hk⟩ := h5.resolve_left z5
      refine T2_chk (n_in3 (by omega) (by omega)) (n_in3 (by omega) (by omega)) ?_
      refine T2_chk (n_in (by omega) (by omega)) (n_in (by omega) (by omega)) ?_
      rw [n_cl (p := pr) (by omega), r18.1, r18.2, t18, x5, n_add (p := t) (by omega)]
      refine T2_ob (E_writeWorked (t := t + np + 1) (p := t + np) hXC hT hN (by omega) hk.2 (by omega) S1 hJ V1 V2 rfl rfl rfl rfl) (fun r1 r2 hr => ?_)
      obtain ⟨c1, c2, c3, c4, c5⟩ := hr
      exact b14 r1.2 r2.2 K1 K2 (FS_tr f1 c1) (FS_tr f2 c2) c3 c4 (c5.imp (fun ⟨w2, h2, h⟩ => ⟨w2, by omega, h⟩) id) k3 l3 k5 l5
    · refine T2_ite ⟨fun z => absurd z (EZ_e z1), fun z => absurd z (EZ_e z2)⟩ (fun z _ => absurd z (EZ_e z1)) (fun _ _ => ?_)
      exact b14 ρ1 ρ2 K1 K2 f1 f2 V1 V2 (Or.inr ⟨z1, z2⟩) k3 l3 k5 l5
  have b11 : ∀ (q i : Nat) (x : Int32) (ρ1 ρ2 : MS) (K1 K2 : Nat → Int32), q + i = np → ArL T FN lc cn pr q i x → FSt τ1 ρ1 → FSt τ2 ρ2 → UT ρ1 → UT ρ2 → ((∃ w', w ≤ w' ∧ EI (t + np + 1) w' XC ρ1 ρ2) ∨ (EZ (t + np + 1) 179301 ρ1 ∧ EZ (t + np + 1) 179301 ρ2)) → K1 3 = nI n0 → K2 3 = nI n0 → K1 4 = nI pr → K2 4 = nI pr → K1 5 = nI t → K2 5 = nI t → K1 6 = nI i → K2 6 = nI i → K1 7 = x → K2 7 = x → T2 (fun k => x_giveBack k 11 K1 ρ1) (fun k => x_giveBack k 11 K2 ρ2) (GBq t w XC n0 τ1 τ2) := by
    intro q
    induction q with
    | zero =>
      intro i x ρ1 ρ2 K1 K2 hq hL f1 f2 V1 V2 hor k3 l3 k4 l4 k5 l5 k6 l6 k7 l7
      have hL : x = -1 := hL
      refine T2_suc (fun k => by rw [x_giveBack]) (fun k => by rw [x_giveBack]) ?_
      rw [k7, l7, hL]
      refine T2_ite Iff.rfl (fun _ _ => ?_) (fun z _ => absurd rfl z)
      exact b13 ρ1 ρ2 K1 K2 f1 f2 V1 V2 hor k3 l3 k4 l4 k5 l5
    | succ q ih =>
      intro i x ρ1 ρ2 K1 K2 hq hL f1 f2 V1 V2 hor k3 l3 k4 l4 k5 l5 k6 l6 k7 l7
      obtain ⟨e, xe, he, hT, _, hL⟩ := hL
      refine T2_suc (fun k => by rw [x_giveBack]) (fun k => by rw [x_giveBack]) ?_
      rw [k7, l7, xe]
      refine T2_ite Iff.rfl (fun z _ => absurd z (ne_m1 he)) (fun _ _ => ?_)
      rcases hor with ⟨w', hw, hJ⟩ | ⟨z1, z2⟩
      case inr =>
        refine T2_ite ⟨fun z => absurd z (EZ_e z1), fun z => absurd z (EZ_e z2)⟩ (fun z _ => absurd z (EZ_e z1)) (fun _ _ => ?_)
        exact b13 ρ1 ρ2 K1 K2 f1 f2 V1 V2 (Or.inr ⟨z1, z2⟩) k3 l3 k4 l4 k5 l5
      obtain ⟨e1, e2⟩ := EI_e hJ
      have S1 := Sc1_fs hS f1
      have S2 := Sc1_fs hS2 f2
      have r19' := rw19 ρ1 ρ2 f1 f2 19 (8 * pr + i) (Or.inr ⟨rfl, by omega, by rw [show (8 * pr + i) / 8 = pr by omega, t18, n_cl (p := np) (by omega)]; omega⟩)
      have b12 : ∀ (π1 π2 : MS), FSt τ1 π1 → FSt τ2 π2 → UT π1 → UT π2 → ((∃ w', w ≤ w' ∧ EI (t + np + 1) w' XC π1 π2) ∨ (EZ (t + np + 1) 179301 π1 ∧ EZ (t + np + 1) 179301 π2)) → T2 (fun k => x_giveBack k 12 K1 π1) (fun k => x_giveBack k 12 K2 π2) (GBq t w XC n0 τ1 τ2) := by
        intro π1 π2 g1 g2 X1 X2 hor
        refine T2_suc (fun k => by rw [x_giveBack]) (fun k => by rw [x_giveBack]) ?_
        rw [k7, l7, k6, l6, xe, n_add1]
        refine T2_chk (n_in (by omega) (by omega)) (n_in (by omega) (by omega)) ?_
        rw [n_cl (p := e) (by omega), (Sc1_fs hS g1).1.1.1 9 _ (by omega) (by omega) (by omega), (Sc1_fs hS2 g2).1.1.1 9 _ (by omega) (by omega) (by omega)]
        exact ih (i + 1) (T 9 e) π1 π2 _ _ (by omega) hL g1 g2 X1 X2 hor k3 l3 k4 l4 k5 l5 rfl rfl rfl rfl
      have e8 : (8 : Int32) * nI pr + nI i = nI (8 * pr + i) := by
        rw [show (8 : Int32) * nI pr = nI (8 * pr) from n_mulN 8 pr, n_add (by omega)]
      rw [e1, e2, k4, l4, k6, l6, k5, l5, e8]
      refine T2_ite Iff.rfl (fun _ _ => ?_) (fun z _ => absurd rfl z)
      refine T2_chk (n_in (by omega) (by omega)) (n_in (by omega) (by omega)) ?_
      rw [n_cl (p := 8 * pr + i) (by omega), r19'.1, r19'.2]
      refine T2_ite Iff.rfl (fun _ _ => b12 ρ1 ρ2 f1 f2 V1 V2 (Or.inl ⟨w', hw, hJ⟩)) (fun z _ => ?_)
      obtain ⟨k, ch, s, x5, hTg, hN, hk⟩ := hT z
      rw [xe] at x5
      rw [x5, n_add (p := t) (by omega)]
      refine T2_ob (E_writeWorked (t := t + np + 1) (p := t + i) hXC hTg hN (by omega) hk.2 (by omega) S1 hJ V1 V2 rfl rfl rfl rfl) (fun r1 r2 hr => ?_)
      obtain ⟨c1, c2, c3, c4, c5⟩ := hr
      exact b12 r1.2 r2.2 (FS_tr f1 c1) (FS_tr f2 c2) c3 c4 (c5.imp (fun ⟨w2, h2, h⟩ => ⟨w2, by omega, h⟩) id)
  refine T2_suc (fun k => by rw [x_giveBack]) (fun k => by rw [x_giveBack]) ?_
  rw [q3, p3]
  refine T2_chk (n_in (by omega) (by omega)) (n_in (by omega) (by omega)) ?_
  rw [n_cl (p := n0) (by omega), hS.1.1.1 6 _ (by omega) (by omega) (by omega), hS2.1.1.1 6 _ (by omega) (by omega) (by omega)]
  exact b11 np 0 (T 6 n0) τ1 τ2 _ _ (by omega) hA FS_rf FS_rf U1 U2 (Or.inl ⟨w, Nat.le_refl _, hI⟩) q3 p3 q4 p4 q5 p5 rfl rfl rfl rfl
end GBW
section GBA
variable {T : Nat → Nat → Int32} {FN : Nat → Nat → Prop} {t w XC pr np ns n0 l2 un0 : Nat} {F0 G : List Nat} {σ1 σ2 : MS} {x y : Int32}
/-- a call gives back -/
theorem E_giveBack (hXC : XC ≤ 402000) (ht : t + 9 + KBn T ≤ w + 17000) (hB : Bs T FN σ1) (hB' : Bs T FN σ2) (hI : EI t w XC σ1 σ2) (U1 : UT σ1) (U2 : UT σ2) (hl : l2 < 50) (hc : σ1.2.2 30 1 = nI (l2 + 1)) (h64 : σ1.2.2 30 (64 + 3 * l2) = nI n0) (h65 : σ1.2.2 30 (65 + 3 * l2) = nI pr) (h66 : σ1.2.2 30 (66 + 3 * l2) = nI F0.length) (hn0 : (1 ≤ n0 ∧ n0 < LNo T % 70001)) (hpr : pr < CNo T % 42) (hnp : np ≤ 8) (hns : ns ≤ 60) (t18 : T 18 pr = nI np) (t21 : T 21 (1 + pr) = nI ns) (t20 : ∀ s, ns ≤ s → s < 60 → T 20 (60 * (1 + pr) + s) = 0) (hlen : (G ++ F0).length ≤ 1050) (hsum : suI T (G ++ F0) ≤ 3100) (hG : ∀ m ∈ G, ∃ kk, ItL T FN (lcU (1 + pr) T) (cnU (1 + pr) T) kk (T 5 m)) (h2 : σ1.2.2 30 2 = nI (G ++ F0).length) (hF : FSk T (σ1.2.2 30) (G ++ F0)) (h3 : σ1.2.2 30 3 = nI (suI T (G ++ F0))) (hIt : ItS σ1 (suI T (G ++ F0))) (hL0 : LvU (σ1.2.2 30) l2 un0) (hA : ArL T FN (lcU un0 T) (cnU un0 T) pr np 0 (T 6 n0)) (h5 : T 5 n0 = -1 ∨ TgN T FN (lcU un0 T) (cnU un0 T) (T 5 n0)) (hV : ∀ τ1 τ2 : MS, EI t w XC τ1 τ2 → FCt (fun i => i = 2 ∨ i = 3) σ1 τ1 → FCt (fun i => i = 2 ∨ i = 3) σ2 τ2 → EI (t + 1) w XC (mPu τ1 t x) (mPu τ2 t y)) {L1 L2 : Nat → Int32} (d1 : L1 1 = x) (d2 : L2 1 = y) : T2 (fun k => x_giveBack k 0 L1 σ1) (fun k => x_giveBack k 0 L2 σ2) (fun r1 r2 => r1.1 = r2.1 ∧ FCt (fun i => i = 1 ∨ i = 2 ∨ i = 3) σ1 r1.2 ∧ FCt (fun i => i = 1 ∨ i = 2 ∨ i = 3) σ2 r2.2 ∧ UT r1.2 ∧ UT r2.2 ∧ ((r1.1 = nI n0 ∧ ∃ w', w ≤ w' ∧ EI t w' XC r1.2 r2.2 ∧ r1.2.2.2 30 1 = nI l2 ∧ r1.2.2.2 30 2 = nI F0.length ∧ r1.2.2.2 30 3 = nI (suI T F0) ∧ ItS r1.2 (suI T F0)) ∨ (r1.1 = -1 ∧ EZ t 179400 r1.2 ∧ EZ t 179400 r2.2))) := by
  have w6 := EI_w hI
  have lvc : LvU (σ1.2.2 30) (l2 + 1) (1 + pr) := Or.inr ⟨pr, by omega, rfl, by omega, by rw [Nat.add_sub_cancel]; exact h65⟩
  have hS := Sc1_lv hB hc (by omega) lvc
  have hS2 := Sc1_ei hS hI
  have s3 : suI T F0 ≤ 3100 := Nat.le_trans (suI_app (G := G)) hsum
  have k1 : σ2.2.2 30 1 = nI (l2 + 1) := (EI_30 hI (by unfold Zn; omega) (InA_4 (by omega))).trans hc
  have k64 : σ2.2.2 30 (64 + 3 * l2) = nI n0 := (EI_30 hI (by unfold Zn; omega) (InA_cl hc (by omega) (by omega))).trans h64
  have k65 : σ2.2.2 30 (65 + 3 * l2) = nI pr := (EI_30 hI (by unfold Zn; omega) (InA_cl hc (by omega) (by omega))).trans h65
  have e64 : (64 : Int32) + 3 * nI l2 = nI (64 + 3 * l2) := by
    rw [show (3 : Int32) * nI l2 = nI (3 * l2) from n_mulN 3 l2]; exact n_add (p := 64) (by omega)
  have e65 : nI (64 + 3 * l2) + 1 = nI (65 + 3 * l2) := by rw [n_add1]; congr 1; omega
  refine T2_suc (fun k => by rw [x_giveBack]) (fun k => by rw [x_giveBack]) ?_
  refine T2_chk (by decide) (by decide) ?_
  rw [show (1 : Int32).toNatClampNeg = 1 from by decide, hc, k1, n_sub1 (by omega), e64, e65]
  refine T2_chk (n_in (by omega) (by omega)) (n_in (by omega) (by omega)) ?_
  refine T2_chk (n_in (by omega) (by omega)) (n_in (by omega) (by omega)) ?_
  rw [n_cl (p := 64 + 3 * l2) (by omega), n_cl (p := 65 + 3 * l2) (by omega), h64, k64, h65, k65]
  refine E_gbClose (l2 := l2) hl rfl rfl hS hS2 hc h66 (fun τ1 τ2 hJ V1 V2 f1 f2 p2 p3 pit => ?_) G σ1 σ2 hlen hsum hG hI U1 U2 FC_rf FC_rf h2 hF h3 hIt
  have B1 := Bs_fc hB f1
  have cc : τ1.2.2 30 1 = nI (l2 + 1) := by rw [FC_30 f1 (by unfold Zn; omega) (by omega)]; exact hc
  have c65 : τ1.2.2 30 (65 + 3 * l2) = nI pr := by rw [FC_30 f1 (by unfold Zn; omega) (by omega)]; exact h65
  refine E_gbFrame (x := x) (y := y) (np := np) (ns := ns) (n0 := n0) (pr := pr) (by omega) hJ (hV τ1 τ2 hJ f1 f2) V1 V2 hl cc c65 (by omega) (STb_30 B1.1 hpr) (by omega) hns (by rw [B1.2.1 18 _ (by omega) (by omega) (by omega)]; exact t18) (by rw [B1.2.1 21 _ (by omega) (by omega) (by omega)]; exact t21) (fun s h1 h2 => by rw [B1.2.2.2.2.2.2]; exact t20 s h1 h2) (by exact d1) (by exact d2) rfl rfl rfl rfl rfl rfl (fun ρ1 ρ2 M1 M2 q3 p3' q4 p4 q5 p5 hK W1 W2 g1 g2 a1 it => ?_)
  have B2 := Bs_fc B1 g1
  have B3 := Bs_fc (Bs_fc hB' f2) g2
  have lv0 : LvU (ρ1.2.2 30) l2 un0 := by
    rcases hL0 with z | ⟨p, z1, z2, z3, z4⟩
    · exact Or.inl z
    · refine Or.inr ⟨p, z1, z2, z3, ?_⟩
      rw [FC_30 g1 (by unfold Zn; omega) (by omega), FC_30 f1 (by unfold Zn; omega) (by omega)]; exact z4
  have S0 := Sc1_lv B2 a1 (by omega) lv0
  refine T2_mono (E_gbWrites hXC ht hn0 hpr hnp S0 (fun a i h => ⟨B2.2.1 a i (by omega) (by omega) (by omega), B3.2.1 a i (by omega) (by omega) (by omega)⟩) hK W1 W2 t18 hA h5 q3 p3' q4 p4 q5 p5) (fun r1 r2 hr => ?_)
  obtain ⟨c1, c2, c3, c4, c5, c6⟩ := hr
  have F1 : FCt (fun i => i = 1 ∨ i = 2 ∨ i = 3) σ1 r1.2 := FC_tr (FC_mo (fun i hi => Or.inr hi) f1) (FC_tr (FC_mo (fun i hi => Or.inl hi) g1) (FC_fs c2))
  have F2 : FCt (fun i => i = 1 ∨ i = 2 ∨ i = 3) σ2 r2.2 := FC_tr (FC_mo (fun i hi => Or.inr hi) f2) (FC_tr (FC_mo (fun i hi => Or.inl hi) g2) (FC_fs c3))
  refine ⟨c1, F1, F2, c4, c5, c6.imp (fun ⟨z, w', hw, hE⟩ => ⟨z, w', hw, hE, ?_, ?_, ?_, ?_⟩) id⟩
  · rw [c2.2.1 30 1 (by unfold AlR; omega) (by unfold Zn; omega) (by omega)]; exact a1
  · rw [c2.2.1 30 2 (by unfold AlR; omega) (by unfold Zn; omega) (by omega), FC_30 g1 (by unfold Zn; omega) (by omega)]; exact p2
  · rw [c2.2.1 30 3 (by unfold AlR; omega) (by unfold Zn; omega) (by omega), FC_30 g1 (by unfold Zn; omega) (by omega)]; exact p3
  · have z3 : ρ1.2.2 30 3 = nI (suI T F0) := by rw [FC_30 g1 (by unfold Zn; omega) (by omega)]; exact p3
    exact ItS_fs c2 z3 s3 (Nat.le_refl _) (it _ s3 pit)
end GBA
