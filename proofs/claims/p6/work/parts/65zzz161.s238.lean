/-! Statements on both sides (reference): a for is closed. -/
/-- numbers of the state that don't tell a call -/
def Ict (i : Nat) : Prop := i = 0 ∨ i = 2 ∨ i = 3 ∨ 3214 ≤ i
section CLF
variable {T : Nat → Nat → Int32} {FN : Nat → Nat → Prop} {lc cn : Nat → Prop} {t w XC : Nat} {σ ρ σ1 σ2 : MS} {I : Nat → Prop}
theorem Sc1_fc (h : Sc1 T FN lc cn σ) (hF : FCt I σ ρ) (hI : ∀ i, I i → Ict i) : Sc1 T FN lc cn ρ := by
  have row : ∀ a, AlR a → (∀ i, ¬ Zn a i) → a ≠ 35 → a ≠ 50 → a ≠ 30 → ρ.2.2 a = σ.2.2 a := fun a h1 h2 h3 h4 h5 => by
    funext i
    exact hF.2.1 a i h1 (h2 i) (fun z => by omega) (fun z => h5 z.1)
  have r20 : kC ρ = kC σ := kC_r (row 20 (by unfold AlR; omega) (fun i => by unfold Zn; omega) (by omega) (by omega) (by omega)) (row 21 (by unfold AlR; omega) (fun i => by unfold Zn; omega) (by omega) (by omega) (by omega)) (hF.1 30 (by unfold AlS; omega) (by omega) (by omega) (by omega) (by omega))
  have sc : ∀ j, j = 67 ∨ j = 97 ∨ j = 72 ∨ j = 69 ∨ j = 68 → ρ.1 j = σ.1 j := fun j hj => hF.1 j (by unfold AlS; omega) (by omega) (by omega) (by omega) (by omega)
  have e30 : ∀ i, i = 1 ∨ (64 ≤ i ∧ i < 214) → ρ.2.2 30 i = σ.2.2 30 i := fun i hi => FC_30 hF (by unfold Zn; omega) (fun z => by have := hI i z; unfold Ict at this; omega)
  have hb := STb_b h.1.1 (ρ := ρ) (fun j hj => hF.1 j (by unfold AlS; omega) (by omega) (by omega) (by omega) (by omega)) (fun a i q => hF.2.1 a i (by unfold AlR; omega) (by unfold Zn; omega) (fun z => by omega) (fun z => by omega))
  obtain ⟨⟨_, c1, c2, c3, c4, c5, ⟨c, d1, d2, d3, d4⟩, c7⟩, h69, k1, k2⟩ := h
  refine ⟨⟨hb, (sc 67 (by omega)).trans c1, c2, (sc 97 (by omega)).trans c3, c4, (sc 72 (by omega)).trans c5, ⟨c, (e30 1 (by omega)).trans d1, d2, ?_, fun s hs z => ?_, fun s hs z z69 z1 => ?_⟩, ?_⟩, (sc 69 (by omega)).trans h69, fun s hs z => ?_, fun s c' hs z z1 h1 h5 => ?_⟩
  · rw [sc 69 (by omega)]; exact d3
  · rw [r20]; exact d4.1 s hs z
  · rw [r20, e30 _ (by omega)]; exact d4.2 s hs z ((sc 69 (by omega)).symm.trans z69) z1
  · rw [sc 69 (by omega), sc 68 (by omega)]; exact c7
  · rw [r20]; exact k1 s hs z
  · rw [r20, e30 _ (by omega)]; exact k2 s c' hs z ((e30 1 (by omega)).symm.trans z1) h1 h5
/-- what is closed with: the same as before, but for numbers of the state -/
def Cst (T : Nat → Nat → Int32) (FN : Nat → Nat → Prop) (lc cn : Nat → Prop) (t w XC : Nat) (I : Nat → Prop) (σ1 σ2 τ1 τ2 : MS) : Prop := EI t w XC τ1 τ2 ∧ UT τ1 ∧ UT τ2 ∧ FCt I σ1 τ1 ∧ FCt I σ2 τ2 ∧ Sc1 T FN lc cn τ1
theorem szN_0 {H : Nat → Int32} : szN H 0 = 1 := by unfold szN; rw [if_pos (by omega)]
/-- a name of a for is emptied -/
theorem E_clr {n s : Nat} (hS : Sc1 T FN lc cn σ1) (hI : EI t w XC σ1 σ2) (U1 : UT σ1) (U2 : UT σ2) (hn : NmW T lc cn n s) {Q : Int32 × MS → Int32 × MS → Prop} {N1 N2 : Nat → Int32} (n1 : N1 3 = nI n) (n2 : N2 3 = nI n) (hQ : ∀ τ1 τ2 : MS, FSt σ1 τ1 → FSt σ2 τ2 → EI t w XC τ1 τ2 → UT τ1 → UT τ2 → T2 (fun k => x_closeFor k 5 (upd N1 3 (T 9 n)) τ1) (fun k => x_closeFor k 5 (upd N2 3 (T 9 n)) τ2) Q) : T2 (fun k => x_closeFor k 5 N1 σ1) (fun k => x_closeFor k 5 N2 σ2) Q := by
  have hS2 := Sc1_ei hS hI
  obtain ⟨c, c1, c5, _, st, ct, pl⟩ := Nm_c hS hn
  obtain ⟨c', c1', c5', _, st2, ct2, _⟩ := Nm_c hS2 hn
  have hI0 := hI
  obtain ⟨g1, l1, B1, h1, X1, g2, l2, B2, h2, X2, m1, m2, hR, _⟩ := hI0
  have ec : c' = c := (n_eq (by omega) (by omega)).mp (c1'.symm.trans ((hR.2.1 30 1 (by unfold AlR; omega) (by unfold Zn; omega) (InA_4 (by omega))).symm.trans c1))
  subst ec
  have al : ∀ j, AlS j → σ2.1 j = σ1.1 j := fun j h => (hR.2.2.1 j h).symm
  obtain ⟨va, vb, va1, va2, va3, va4, va5, va6, va7⟩ := hR.1 30 (plc T c' n s) (Or.inr (Or.inl ⟨rfl, st⟩)) (by unfold VwR; omega)
  have so := (EVb_sz va5).1
  have bo := szN_b m1.1 va2
  have V1 := U1
  have V2 := U2
  obtain ⟨h64, P, h63, hP, h65, _, hl, _⟩ := V1
  obtain ⟨k64, P', k63, hP', k65, _, kl, _⟩ := V2
  have eS : StS σ2 = StS σ1 := (n_eq (by omega) (by omega)).mp (k64.symm.trans ((al 64 (by unfold AlS; omega)).trans h64))
  obtain ⟨le, w1⟩ := UT_wr (m := 0) m1.1 U1 ct pl (Or.inl (by decide)) va1 va2 (by rw [h63, n_cl (p := P) (by omega), szN_0]; omega)
  obtain ⟨le2, w2⟩ := UT_wr (m := 0) m2.1 U2 ct2 pl (Or.inl (by decide)) va3 va4 (by rw [k63, n_cl (p := P') (by omega), szN_0, so]; omega)
  rw [eS, so] at w2
  rw [szN_0] at w1 w2
  have n7 := hn.1
  have ne : ¬ nI n = -1 := fun z => by
    have := congrArg Int32.toInt z
    rw [n_int (by omega)] at this
    have e : (-1 : Int32).toInt = -1 := by decide
    omega
  refine T2_suc (fun k => by rw [x_closeFor]) (fun k => by rw [x_closeFor]) ?_
  rw [n1, n2]
  refine T2_ite Iff.rfl (fun z _ => absurd z ne) (fun _ _ => ?_)
  refine T2_ob (T2_t (s_valS hS hn c1 c5 rfl) (s_valS hS2 hn c1' c5 rfl)) (fun r1 r2 hr => ?_)
  rw [hr.1, hr.2]
  refine T2_ob (T2_t (s_size m1.1 va2 (by exact va1)) (s_size m2.1 va4 (by exact va3))) (fun r1 r2 hr => ?_)
  rw [hr.1, hr.2, so]
  have a64 : σ1.1 64 + (1 - nI (szN (σ1.2.2 28) va)) = nI (StS σ1 + 1 - szN (σ1.2.2 28) va) := by
    rw [h64, show (1 : Int32) = nI 1 from rfl, n_mix (by omega) (by omega)]
  have b64 : σ2.1 64 + (1 - nI (szN (σ1.2.2 28) va)) = nI (StS σ1 + 1 - szN (σ1.2.2 28) va) := by rw [al 64 (by unfold AlS; omega)]; exact a64
  show T2 (fun k => x_closeFor k 6 N1 (mSc σ1 64 (σ1.1 64 + (1 - nI (szN (σ1.2.2 28) va))))) (fun k => x_closeFor k 6 N2 (mSc σ2 64 (σ2.1 64 + (1 - nI (szN (σ1.2.2 28) va))))) Q
  rw [a64, b64]
  have F1 : FSt σ1 (mSc σ1 64 (nI (StS σ1 + 1 - szN (σ1.2.2 28) va))) := FS_sc (by omega)
  have F2 : FSt σ2 (mSc σ2 64 (nI (StS σ1 + 1 - szN (σ1.2.2 28) va))) := FS_sc (by omega)
  refine T2_suc (fun k => by rw [x_closeFor]) (fun k => by rw [x_closeFor]) ?_
  rw [n1, n2]
  refine T2_ob (T2_t (s_bndS (Sc1_fs hS F1) hn (by exact c1) c5 rfl) (s_bndS (Sc1_fs hS2 F2) hn (by exact c1') c5 rfl)) (fun r1 r2 hr => ?_)
  rw [hr.1, hr.2]
  refine T2_chk (n_in (by omega) (by omega)) (n_in (by omega) (by omega)) ?_
  rw [n_cl (p := n) (by omega)]
  have G1 : FSt σ1 (mAr (mSc σ1 64 (nI (StS σ1 + 1 - szN (σ1.2.2 28) va))) 30 (plc T c' n s) 0) := FS_wr pl
  have G2 : FSt σ2 (mAr (mSc σ2 64 (nI (StS σ1 + 1 - szN (σ1.2.2 28) va))) 30 (plc T c' n s) 0) := FS_wr pl
  show T2 (fun k => x_closeFor k 5 (upd N1 3 ((mAr (mSc σ1 64 (nI (StS σ1 + 1 - szN (σ1.2.2 28) va))) 30 (plc T c' n s) 0).2.2 9 n)) (mAr (mSc σ1 64 (nI (StS σ1 + 1 - szN (σ1.2.2 28) va))) 30 (plc T c' n s) 0)) (fun k => x_closeFor k 5 (upd N2 3 ((mAr (mSc σ2 64 (nI (StS σ1 + 1 - szN (σ1.2.2 28) va))) 30 (plc T c' n s) 0).2.2 9 n)) (mAr (mSc σ2 64 (nI (StS σ1 + 1 - szN (σ1.2.2 28) va))) 30 (plc T c' n s) 0)) Q
  rw [(Sc1_fs hS G1).1.1.1 9 _ (by omega) (by omega) (by omega), (Sc1_fs hS2 G2).1.1.1 9 _ (by omega) (by omega) (by omega)]
  exact hQ _ _ G1 G2 (EI_bd0 (EI_s (by omega) hI) pl) w1 w2
/-- the names of an iterator -/
theorem cf_5 {Q : Int32 × MS → Int32 × MS → Prop} {e : Nat} : ∀ (q : Nat) (x : Int32) (σ1 σ2 : MS) (N1 N2 : Nat → Int32), NmL T lc cn q x → N1 3 = x → N2 3 = x → N1 2 = nI e → N2 2 = nI e → Sc1 T FN lc cn σ1 → EI t w XC σ1 σ2 → UT σ1 → UT σ2 → (∀ (τ1 τ2 : MS) (M1 M2 : Nat → Int32), M1 2 = nI e → M2 2 = nI e → FSt σ1 τ1 → FSt σ2 τ2 → EI t w XC τ1 τ2 → UT τ1 → UT τ2 → T2 (fun k => x_closeFor k 7 M1 τ1) (fun k => x_closeFor k 7 M2 τ2) Q) → T2 (fun k => x_closeFor k 5 N1 σ1) (fun k => x_closeFor k 5 N2 σ2) Q := by
  intro q
  induction q with
  | zero =>
    intro x σ1 σ2 N1 N2 hL n1 n2 p1 p2 hS hI U1 U2 hQ
    have hL : x = -1 := hL
    refine T2_suc (fun k => by rw [x_closeFor]) (fun k => by rw [x_closeFor]) ?_
    rw [n1, n2, hL]
    refine T2_ite Iff.rfl (fun _ _ => ?_) (fun z _ => absurd rfl z)
    exact hQ σ1 σ2 N1 N2 p1 p2 FS_rf FS_rf hI U1 U2
  | succ q ih =>
    intro x σ1 σ2 N1 N2 hL n1 n2 p1 p2 hS hI U1 U2 hQ
    obtain ⟨a, s, xa, hn, hL⟩ := hL
    rw [xa] at n1 n2
    refine E_clr hS hI U1 U2 hn n1 n2 (fun τ1 τ2 f1 f2 hJ V1 V2 => ?_)
    exact ih (T 9 a) τ1 τ2 _ _ hL rfl rfl p1 p2 (Sc1_fs hS f1) hJ V1 V2 (fun ρ1 ρ2 M1 M2 m1 m2 g1 g2 hK W1 W2 => hQ ρ1 ρ2 M1 M2 m1 m2 (FS_tr f1 g1) (FS_tr f2 g2) hK W1 W2)
theorem ne_m1 {n : Nat} (h : (1 ≤ n ∧ n < LNo T % 70001)) : ¬ nI n = -1 := fun z => by
  have := congrArg Int32.toInt z
  rw [n_int (by omega)] at this
  have e : (-1 : Int32).toInt = -1 := by decide
  omega
/-- the iterators of a for: all names -/
theorem cf_4 : ∀ (q : Nat) (x : Int32) (σ1 σ2 : MS) (N1 N2 : Nat → Int32), ItL T FN lc cn q x → N1 2 = x → N2 2 = x → Sc1 T FN lc cn σ1 → EI t w XC σ1 σ2 → UT σ1 → UT σ2 → T2 (fun k => x_closeFor k 4 N1 σ1) (fun k => x_closeFor k 4 N2 σ2) (fun r1 r2 => FSt σ1 r1.2 ∧ FSt σ2 r2.2 ∧ EI t w XC r1.2 r2.2 ∧ UT r1.2 ∧ UT r2.2) := by
  intro q
  induction q with
  | zero =>
    intro x σ1 σ2 N1 N2 hL n1 n2 hS hI U1 U2
    have hL : x = -1 := hL
    refine T2_suc (fun k => by rw [x_closeFor]) (fun k => by rw [x_closeFor]) ?_
    rw [n1, n2, hL]
    refine T2_ite Iff.rfl (fun _ _ => ?_) (fun z _ => absurd rfl z)
    refine T2_suc (fun k => by rw [x_closeFor]) (fun k => by rw [x_closeFor]) ?_
    exact T2_some ⟨FS_rf, FS_rf, hI, U1, U2⟩
  | succ q ih =>
    intro x σ1 σ2 N1 N2 hL n1 n2 hS hI U1 U2
    obtain ⟨e, xe, he, ⟨qq, _, _, hN⟩, _, hL⟩ := hL
    have hS2 := Sc1_ei hS hI
    refine T2_suc (fun k => by rw [x_closeFor]) (fun k => by rw [x_closeFor]) ?_
    rw [n1, n2, xe]
    refine T2_ite Iff.rfl (fun z _ => absurd z (ne_m1 he)) (fun _ _ => ?_)
    refine T2_chk (n_in (by omega) (by omega)) (n_in (by omega) (by omega)) ?_
    rw [n_cl (p := e) (by omega), hS.1.1.1 6 _ (by omega) (by omega) (by omega), hS2.1.1.1 6 _ (by omega) (by omega) (by omega)]
    refine cf_5 (e := e) qq (T 6 e) σ1 σ2 _ _ hN rfl rfl (n1.trans xe) (n2.trans xe) hS hI U1 U2 (fun τ1 τ2 M1 M2 m1 m2 f1 f2 hJ V1 V2 => ?_)
    refine T2_suc (fun k => by rw [x_closeFor]) (fun k => by rw [x_closeFor]) ?_
    rw [m1, m2]
    refine T2_chk (n_in (by omega) (by omega)) (n_in (by omega) (by omega)) ?_
    rw [n_cl (p := e) (by omega), (Sc1_fs hS f1).1.1.1 9 _ (by omega) (by omega) (by omega), (Sc1_fs hS2 f2).1.1.1 9 _ (by omega) (by omega) (by omega)]
    refine T2_mono (ih (T 9 e) τ1 τ2 _ _ hL rfl rfl (Sc1_fs hS f1) hJ V1 V2) (fun r1 r2 hr => ?_)
    exact ⟨FS_tr f1 hr.1, FS_tr f2 hr.2.1, hr.2.2⟩
/-- a for is closed -/
theorem E_closeFor {m kk q : Nat} {F : List Nat} (hS : Sc1 T FN lc cn σ1) (hI : EI t w XC σ1 σ2) (U1 : UT σ1) (U2 : UT σ2) (hl : F.length + 1 ≤ 1050) (h2 : σ1.2.2 30 2 = nI (F.length + 1)) (hF : FSk T (σ1.2.2 30) (m :: F)) (h3 : σ1.2.2 30 3 = nI q) (hq : suI T F ≤ q ∧ q ≤ 3100) (hL : ItL T FN lc cn kk (T 5 m)) {L1 L2 : Nat → Int32} : T2 (fun k => x_closeFor k 0 L1 σ1) (fun k => x_closeFor k 0 L2 σ2) (fun r1 r2 => EI t w XC r1.2 r2.2 ∧ UT r1.2 ∧ UT r2.2 ∧ FCt (fun i => i = 2 ∨ i = 3) σ1 r1.2 ∧ FCt (fun i => i = 2 ∨ i = 3) σ2 r2.2 ∧ r1.2.2.2 30 2 = nI F.length ∧ r1.2.2.2 30 3 = nI (suI T F) ∧ (ItS σ1 (suI T F) → ItS r1.2 (suI T F))) := by
  obtain ⟨⟨m7, A0, A1⟩, _⟩ := hF
  have al : ∀ {τ1 τ2 : MS}, EI t w XC τ1 τ2 → ∀ i, ¬ Zn 30 i → ¬ InA τ1 30 i → τ2.2.2 30 i = τ1.2.2 30 i := fun h i hi hn => by
    obtain ⟨g1, l1, B1, h1, X1, g2, l2, B2, h2, X2, m1, m2, hR, _⟩ := h
    exact (hR.2.1 30 i (by unfold AlR; omega) hi hn).symm
  have ict : ∀ i, (i = 2 ∨ i = 3) → Ict i := fun i h => by unfold Ict; omega
  have p1 : (3214 : Int32) + 2 * nI F.length = nI (3214 + 2 * F.length) := by
    rw [show (2 : Int32) * nI F.length = nI (2 * F.length) from n_mulN 2 F.length]; exact n_add (p := 3214) (by omega)
  -- behind the iterators
  have two : ∀ (τ1 τ2 : MS) (N1 N2 : Nat → Int32), N1 1 = nI (3214 + 2 * F.length) → N2 1 = nI (3214 + 2 * F.length) → EI t w XC τ1 τ2 → UT τ1 → UT τ2 → FCt (fun i => i = 2 ∨ i = 3) σ1 τ1 → FCt (fun i => i = 2 ∨ i = 3) σ2 τ2 → τ1.2.2 30 2 = nI (F.length + 1) → τ1.2.2 30 3 = nI (suI T F) → (ItS σ1 (suI T F) → ItS τ1 (suI T F)) → T2 (fun k => x_closeFor k 2 N1 τ1) (fun k => x_closeFor k 2 N2 τ2) (fun r1 r2 => EI t w XC r1.2 r2.2 ∧ UT r1.2 ∧ UT r2.2 ∧ FCt (fun i => i = 2 ∨ i = 3) σ1 r1.2 ∧ FCt (fun i => i = 2 ∨ i = 3) σ2 r2.2 ∧ r1.2.2.2 30 2 = nI F.length ∧ r1.2.2.2 30 3 = nI (suI T F) ∧ (ItS σ1 (suI T F) → ItS r1.2 (suI T F))) := by
    intro τ1 τ2 N1 N2 n1 n2 hJ V1 V2 f1 f2 t2 t3 it
    refine T2_suc (fun k => by rw [x_closeFor]) (fun k => by rw [x_closeFor]) ?_
    refine T2_chk (by decide) (by decide) ?_
    refine T2_chk (by decide) (by decide) ?_
    rw [show (2 : Int32).toNatClampNeg = 2 from by decide, al hJ 2 (by unfold Zn; omega) (InA_4 (by omega)), t2, n_sub1 (by omega)]
    show T2 (fun k => x_closeFor k 3 N1 (mAr τ1 30 2 (nI F.length))) (fun k => x_closeFor k 3 N2 (mAr τ2 30 2 (nI F.length))) _
    have bq : ∀ {τ1 τ2 : MS}, EI t w XC τ1 τ2 → StB (τ1.2.2 30) 0 ∧ StB (τ2.2.2 30) 0 := fun h => by
      obtain ⟨g1, l1, B1, h1, X1, g2, l2, B2, h2, X2, m1, m2, hR, _⟩ := h
      obtain ⟨_, _, _, _, _, _, s, _⟩ := m1.2.1
      obtain ⟨_, _, _, _, _, _, s', _⟩ := m2.2.1
      exact ⟨s, s'⟩
    have hJ' := EI_c2 (f' := F.length) t2 (by omega) (by omega) hJ
    have k0 := al hJ (3214 + 2 * F.length) (by unfold Zn; omega) (InA_fo t2 (by omega) (by omega))
    have V1' := UT_c30 (i := 2) (x := nI F.length) (by unfold Zn; omega) (bq hJ).1 V1
    have V2' := UT_c30 (i := 2) (x := nI F.length) (by unfold Zn; omega) (bq hJ).2 V2
    have g1 : FCt (fun i => i = 2 ∨ i = 3) σ1 (mAr τ1 30 2 (nI F.length)) := FC_tr f1 (FC_w (Or.inl rfl))
    have g2 : FCt (fun i => i = 2 ∨ i = 3) σ2 (mAr τ2 30 2 (nI F.length)) := FC_tr f2 (FC_w (Or.inl rfl))
    have o : ∀ (τ : MS) j, j ≠ 2 → (mAr τ 30 2 (nI F.length)).2.2 30 j = τ.2.2 30 j := fun τ j hj => by rw [mAr_s, upd_other hj]
    have k0' : (mAr τ2 30 2 (nI F.length)).2.2 30 (3214 + 2 * F.length) = (mAr τ1 30 2 (nI F.length)).2.2 30 (3214 + 2 * F.length) := by rw [o _ _ (by omega), o _ _ (by omega)]; exact k0
    have s2 : (mAr τ1 30 2 (nI F.length)).2.2 30 2 = nI F.length := by rw [mAr_s, upd_same]
    have s3 : (mAr τ1 30 2 (nI F.length)).2.2 30 3 = nI (suI T F) := by rw [o _ _ (by omega)]; exact t3
    have it' : ItS σ1 (suI T F) → ItS (mAr τ1 30 2 (nI F.length)) (suI T F) := fun h => ItS_c (σ := τ1) (by omega) (mAr_o (by decide)) (fun i hi => o _ _ (by omega)) (it h)
    generalize mAr τ1 30 2 (nI F.length) = ρ1 at *
    generalize mAr τ2 30 2 (nI F.length) = ρ2 at *
    have hS1 := Sc1_fc hS g1 ict
    have hS2 := Sc1_ei hS1 hJ'
    have a0 : ρ1.2.2 30 (3214 + 2 * F.length) = nI m := by rw [FC_30 g1 (by unfold Zn; omega) (by omega)]; exact A0
    refine T2_suc (fun k => by rw [x_closeFor]) (fun k => by rw [x_closeFor]) ?_
    rw [n1, n2]
    refine T2_chk (n_in (by omega) (by omega)) (n_in (by omega) (by omega)) ?_
    rw [n_cl (p := 3214 + 2 * F.length) (by omega), k0', a0]
    refine T2_chk (n_in (by omega) (by omega)) (n_in (by omega) (by omega)) ?_
    rw [n_cl (p := m) (by omega), hS1.1.1.1 5 _ (by omega) (by omega) (by omega), hS2.1.1.1 5 _ (by omega) (by omega) (by omega)]
    refine T2_mono (cf_4 kk (T 5 m) ρ1 ρ2 _ _ hL rfl rfl hS1 hJ' V1' V2') (fun r1 r2 hr => ?_)
    obtain ⟨y1, y2, y3, y4, y5⟩ := hr
    refine ⟨y3, y4, y5, FC_tr g1 (FC_fs y1), FC_tr g2 (FC_fs y2), ?_, ?_, fun h => ?_⟩
    · rw [y1.2.1 30 2 (by unfold AlR; omega) (by unfold Zn; omega) (by omega)]; exact s2
    · rw [y1.2.1 30 3 (by unfold AlR; omega) (by unfold Zn; omega) (by omega)]; exact s3
    · exact ItS_fs y1 s3 (by omega) (Nat.le_refl _) (it' h)
  have lp : ∀ (d : Nat) (τ1 τ2 : MS) (N1 N2 : Nat → Int32), suI T F + d ≤ 3100 → N1 1 = nI (3214 + 2 * F.length) → N2 1 = nI (3214 + 2 * F.length) → EI t w XC τ1 τ2 → UT τ1 → UT τ2 → FCt (fun i => i = 2 ∨ i = 3) σ1 τ1 → FCt (fun i => i = 2 ∨ i = 3) σ2 τ2 → τ1.2.2 30 2 = nI (F.length + 1) → τ1.2.2 30 3 = nI (suI T F + d) → (ItS σ1 (suI T F) → ItS τ1 (suI T F)) → T2 (fun k => x_closeFor k 1 N1 τ1) (fun k => x_closeFor k 1 N2 τ2) (fun r1 r2 => EI t w XC r1.2 r2.2 ∧ UT r1.2 ∧ UT r2.2 ∧ FCt (fun i => i = 2 ∨ i = 3) σ1 r1.2 ∧ FCt (fun i => i = 2 ∨ i = 3) σ2 r2.2 ∧ r1.2.2.2 30 2 = nI F.length ∧ r1.2.2.2 30 3 = nI (suI T F) ∧ (ItS σ1 (suI T F) → ItS r1.2 (suI T F))) := by
    intro d
    induction d with
    | zero =>
      intro τ1 τ2 N1 N2 hd n1 n2 hJ V1 V2 f1 f2 t2 t3 it
      refine T2_suc (fun k => by rw [x_closeFor]) (fun k => by rw [x_closeFor]) ?_
      rw [n1, n2, n_add1]
      refine T2_chk (by decide) (by decide) ?_
      refine T2_chk (n_in (by omega) (by omega)) (n_in (by omega) (by omega)) ?_
      rw [show (3 : Int32).toNatClampNeg = 3 from by decide, n_cl (p := 3214 + 2 * F.length + 1) (by omega), al hJ 3 (by unfold Zn; omega) (InA_4 (by omega)), al hJ (3214 + 2 * F.length + 1) (by unfold Zn; omega) (InA_fo t2 (by omega) (by omega)), FC_30 f1 (i := 3214 + 2 * F.length + 1) (by unfold Zn; omega) (by omega), A1, t3]
      refine T2_ite Iff.rfl (fun _ _ => ?_) (fun z _ => absurd (by rw [Nat.add_zero]; exact Int32.le_refl _) z)
      exact two τ1 τ2 N1 N2 n1 n2 hJ V1 V2 f1 f2 t2 t3 it
    | succ d ih =>
      intro τ1 τ2 N1 N2 hd n1 n2 hJ V1 V2 f1 f2 t2 t3 it
      refine T2_suc (fun k => by rw [x_closeFor]) (fun k => by rw [x_closeFor]) ?_
      rw [n1, n2, n_add1]
      refine T2_chk (by decide) (by decide) ?_
      refine T2_chk (n_in (by omega) (by omega)) (n_in (by omega) (by omega)) ?_
      rw [show (3 : Int32).toNatClampNeg = 3 from by decide, n_cl (p := 3214 + 2 * F.length + 1) (by omega), al hJ 3 (by unfold Zn; omega) (InA_4 (by omega)), al hJ (3214 + 2 * F.length + 1) (by unfold Zn; omega) (InA_fo t2 (by omega) (by omega)), FC_30 f1 (i := 3214 + 2 * F.length + 1) (by unfold Zn; omega) (by omega), A1, t3]
      refine T2_ite Iff.rfl (fun z _ => ?_) (fun _ _ => ?_)
      · have := (n_le (by omega) (by omega)).mp z
        omega
      refine T2_ob (E_dropIter (q := suI T F + d) hJ V1 V2 (by omega) t3) (fun r1 r2 hr => ?_)
      obtain ⟨y1, y2, y3, y4, y5, y6, y7⟩ := hr
      refine ih r1.2 r2.2 N1 N2 (by omega) n1 n2 y1 y2 y3 (FC_tr f1 (FC_mo (fun i hi => Or.inr hi) y4)) (FC_tr f2 (FC_mo (fun i hi => Or.inr hi) y5)) ?_ y6 (fun h => y7 _ (by omega) (it h))
      rw [FC_30 y4 (by unfold Zn; omega) (by omega)]; exact t2
  refine T2_suc (fun k => by rw [x_closeFor]) (fun k => by rw [x_closeFor]) ?_
  refine T2_chk (by decide) (by decide) ?_
  rw [show (2 : Int32).toNatClampNeg = 2 from by decide, al hI 2 (by unfold Zn; omega) (InA_4 (by omega)), h2, n_sub1 (by omega), p1]
  exact lp (q - suI T F) σ1 σ2 _ _ (by omega) rfl rfl hI U1 U2 FC_rf FC_rf h2 (by rw [show suI T F + (q - suI T F) = q by omega]; exact h3) (fun h => h)
end CLF
