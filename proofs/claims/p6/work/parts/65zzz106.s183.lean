/-! Two runs side by side (reference): what is put out, names of types. -/
section KPT
variable {g1 g2 : Nat → Prop} {l1 l2 : List Nat} {B1 h1 B2 h2 n : Nat} {σ1 σ2 : MS}
/-- put out alike: so far the same bytes -/
def OtE (τ1 τ2 : MS) : Prop := ∃ w, w ≤ 12000 ∧ τ1.1 93 = nI w ∧ τ2.1 93 = nI w ∧ AgN (τ1.2.2 48) (τ2.2.2 48) w
/-- what putting changes -/
def PtF (σ τ : MS) : Prop := (∀ j, j ≠ 93 → τ.1 j = σ.1 j) ∧ (∀ j, j ≠ 48 → τ.2.2 j = σ.2.2 j)
theorem PtF_rf {σ : MS} : PtF σ σ := ⟨fun _ _ => rfl, fun _ _ => rfl⟩
theorem PtF_tr {σ τ υ : MS} (h : PtF σ τ) (k : PtF τ υ) : PtF σ υ := ⟨fun j hj => (k.1 j hj).trans (h.1 j hj), fun j hj => (k.2 j hj).trans (h.2 j hj)⟩
theorem PtF_HS {g : Nat → Prop} {l : List Nat} {B h : Nat} {σ τ : MS} (hN : PtF σ τ) (hS : HS g l B h σ) : HS g l B h τ := HS_c hS (hN.1 54 (by decide)) (hN.1 55 (by decide)) (hN.2 28 (by decide))
theorem k_put (hO : OtE σ1 σ2) {L1 L2 : Nat → Int32} (hL : L1 1 = L2 1) : Pm n (fun k => x_put k 0 L1 σ1) (fun k => x_put k 0 L2 σ2) (fun r1 r2 => OtE r1.2 r2.2 ∧ PtF σ1 r1.2 ∧ PtF σ2 r2.2) := by
  obtain ⟨w, hw, q1, q2, q3⟩ := hO
  refine Pm_suc rfl (fun k => by rw [x_put]) (fun k => by rw [x_put]) (fun m1 _ => ?_)
  rw [q1, q2]
  refine Pm_chk (fun z _ => ?_)
  have hlt : w < 12000 := by
    by_cases e : w = 12000
    · exact absurd (Or.inr (by rw [e]; decide)) z
    · omega
  rw [n_cl (p := w) (by omega)]
  show Pm m1 (fun k => x_put k 1 L1 (mAr σ1 48 w (L1 1))) (fun k => x_put k 1 L2 (mAr σ2 48 w (L2 1))) _
  refine Pm_suc rfl (fun k => by rw [x_put]) (fun k => by rw [x_put]) (fun m2 _ => ?_)
  rw [show (mAr σ1 48 w (L1 1)).1 93 + 1 = nI (w + 1) by show σ1.1 93 + 1 = _; rw [q1, n_add1], show (mAr σ2 48 w (L2 1)).1 93 + 1 = nI (w + 1) by show σ2.1 93 + 1 = _; rw [q2, n_add1]]
  refine Pm_some ⟨⟨w + 1, by omega, rfl, rfl, ?_⟩, ⟨fun j hj => upd_other hj, fun j hj => mAr_o hj⟩, ⟨fun j hj => upd_other hj, fun j hj => mAr_o hj⟩⟩
  show AgN ((mAr σ1 48 w (L1 1)).2.2 48) ((mAr σ2 48 w (L2 1)).2.2 48) (w + 1)
  rw [mAr_s, mAr_s]
  exact AgN_up q3 hL
theorem k_putWord (hO : OtE σ1 σ2) (h2 : σ1.2.2 2 = σ2.2.2 2) {L1 L2 : Nat → Int32} (hL : LEn 1 L1 L2) : Pm n (fun k => x_putWord k 0 L1 σ1) (fun k => x_putWord k 0 L2 σ2) (fun r1 r2 => OtE r1.2 r2.2 ∧ PtF σ1 r1.2 ∧ PtF σ2 r2.2) := by
  have c4 : ∀ (m : Nat) (N1 N2 : Nat → Int32) (τ1 τ2 : MS), LEn 1 N1 N2 → OtE τ1 τ2 → PtF σ1 τ1 → PtF σ2 τ2 → Pm m (fun k => x_putWord k 4 N1 τ1) (fun k => x_putWord k 4 N2 τ2) (fun r1 r2 => OtE r1.2 r2.2 ∧ PtF σ1 r1.2 ∧ PtF σ2 r2.2) := by
    intro m
    induction m using Nat.strongRecOn with
    | ind m ih =>
    intro N1 N2 τ1 τ2 hN hT p1 p2
    have e2 : τ1.2.2 2 = τ2.2.2 2 := (p1.2 2 (by decide)).trans (h2.trans (p2.2 2 (by decide)).symm)
    refine Pm_suc rfl (fun k => by rw [x_putWord]) (fun k => by rw [x_putWord]) (fun k1 hk1 => ?_)
    rw [hN 2 (by omega), e2]
    refine Pm_chk (fun _ _ => ?_)
    refine Pm_ite Iff.rfl (fun _ _ => ?_) (fun _ _ => ?_)
    · refine Pm_suc rfl (fun k => by rw [x_putWord]) (fun k => by rw [x_putWord]) (fun k2 hk2 => ?_)
      exact Pm_some ⟨hT, p1, p2⟩
    · refine Pm_chk (fun _ _ => ?_)
      exact Pm_ob (k_put hT rfl) (fun r1 r2 hr => ih k1 (by omega) _ _ _ _ (LEn_u hN rfl) hr.1 (PtF_tr p1 hr.2.1) (PtF_tr p2 hr.2.2))
  have c1 : ∀ (m : Nat) (N1 N2 : Nat → Int32), LEn 1 N1 N2 → Pm m (fun k => x_putWord k 1 N1 σ1) (fun k => x_putWord k 1 N2 σ2) (fun r1 r2 => OtE r1.2 r2.2 ∧ PtF σ1 r1.2 ∧ PtF σ2 r2.2) := by
    intro m
    induction m using Nat.strongRecOn with
    | ind m ih =>
    intro N1 N2 hN
    have c3 : ∀ (m' : Nat) (M1 M2 : Nat → Int32), m' < m → LEn 1 M1 M2 → Pm m' (fun k => x_putWord k 3 M1 σ1) (fun k => x_putWord k 3 M2 σ2) (fun r1 r2 => OtE r1.2 r2.2 ∧ PtF σ1 r1.2 ∧ PtF σ2 r2.2) := fun m' M1 M2 hm' hM => by
      refine Pm_suc rfl (fun k => by rw [x_putWord]) (fun k => by rw [x_putWord]) (fun k2 hk2 => ?_)
      exact ih k2 (by omega) _ _ (LEn_u (LEn_u hM (by rw [hM 101 (by omega), hM 100 (by omega)])) (by rw [hM 2 (by omega)]))
    refine Pm_suc rfl (fun k => by rw [x_putWord]) (fun k => by rw [x_putWord]) (fun k1 hk1 => ?_)
    rw [hN 2 (by omega), hN 1 (by omega), hN 3 (by omega), h2]
    refine Pm_ite Iff.rfl (fun _ _ => c4 k1 _ _ _ _ hN hO PtF_rf PtF_rf) (fun _ _ => ?_)
    refine Pm_chk (fun _ _ => ?_)
    refine Pm_ite Iff.rfl (fun _ _ => c3 k1 _ _ (by omega) (LEn_u (LEn_u hN rfl) rfl)) (fun _ _ => ?_)
    have hM : LEn 1 (upd N1 100 (N2 3)) (upd N2 100 (N2 3)) := LEn_u hN rfl
    refine Pm_suc rfl (fun k => by rw [x_putWord]) (fun k => by rw [x_putWord]) (fun k2 hk2 => ?_)
    exact c3 k2 _ _ (by omega) (LEn_u (LEn_u hM rfl) (hM 100 (by omega)))
  refine Pm_suc rfl (fun k => by rw [x_putWord]) (fun k => by rw [x_putWord]) (fun m1 _ => ?_)
  exact c1 m1 _ _ (LEn_u (LEn_u hL rfl) rfl)
theorem k_typeOf {v1 v2 : Nat} (hS1 : HS g1 l1 B1 h1 σ1) (hS2 : HS g2 l2 B2 h2 σ2) (e1 : σ1.1 56 = 0) (e2 : σ2.1 56 = 0) (hr1 : h1 + 4004 ≤ B1 + 870000) (hr2 : h2 + 4004 ≤ B2 + 870000) (hv1 : v1 < 3 ∨ g1 v1) (hv2 : v2 < 3 ∨ g2 v2) (hv : EVb (σ1.2.2 28) (σ2.2.2 28) v1 v2) (hT : σ1.2.2 2 = σ2.2.2 2) {L1 L2 : Nat → Int32} (d1 : L1 1 = nI v1) (f1 : L2 1 = nI v2) : Pm n (fun k => x_typeOf k 0 L1 σ1) (fun k => x_typeOf k 0 L2 σ2) (KQ h1 h2 4004) := by
  refine Pm_suc rfl (fun k => by rw [x_typeOf]) (fun k => by rw [x_typeOf]) (fun m1 _ => ?_)
  show Pm m1 (fun k => x_typeOf k 1 L1 (mSc σ1 93 0)) (fun k => x_typeOf k 1 L2 (mSc σ2 93 0)) _
  have hO : OtE (mSc σ1 93 0) (mSc σ2 93 0) := ⟨0, by omega, rfl, rfl, fun i hi => absurd hi (Nat.not_lt_zero i)⟩
  have hT1 : HS g1 l1 B1 h1 (mSc σ1 93 0) := HS_c hS1 rfl rfl rfl
  have hT2 : HS g2 l2 B2 h2 (mSc σ2 93 0) := HS_c hS2 rfl rfl rfl
  have e1' : (mSc σ1 93 0).1 56 = 0 := e1
  have e2' : (mSc σ2 93 0).1 56 = 0 := e2
  have hv' : EVb ((mSc σ1 93 0).2.2 28) ((mSc σ2 93 0).2.2 28) v1 v2 := hv
  have hT' : (mSc σ1 93 0).2.2 2 = (mSc σ2 93 0).2.2 2 := hT
  generalize mSc σ1 93 0 = ρ1 at hO hT1 e1' hv' hT'
  generalize mSc σ2 93 0 = ρ2 at hO hT2 e2' hv' hT'
  refine Pm_suc rfl (fun k => by rw [x_typeOf]) (fun k => by rw [x_typeOf]) (fun m2 _ => ?_)
  refine Pm_ob (Pm_t2 (s_kind hT1 hv1 (by exact d1)) (fun k => f_kind k _ _ _) (s_kind hT2 hv2 (by exact f1)) (fun k => f_kind k _ _ _)) (fun r1 r2 hr => ?_)
  rw [hr.1, hr.2, (EVb_sz hv').2.2]
  refine Pm_ob (k_putWord hO hT' (fun i hi => rfl)) (fun s1 s2 hs => ?_)
  obtain ⟨⟨w, w1, w2, w3, w4⟩, p1, p2⟩ := hs
  rw [w2, w3]
  exact Pm_ob (k_stringOf48 (f1 := 0) (f2 := 0) (w := w) (PtF_HS p1 hT1) (PtF_HS p2 hT2) ((p1.1 56 (by decide)).trans e1') ((p2.1 56 (by decide)).trans e2') hr1 hr2 (by omega) (fun _ => by omega) (fun _ => by omega) (fun i hi => by rw [Nat.zero_add]; exact w4 i hi) rfl rfl rfl rfl) (fun r1 r2 hr => Pm_some hr)
end KPT
