/-! Two runs side by side (reference): reductions. -/
/-- room for c cells; alike behind an operation that may sweep -/
def Rm (c : Nat) (σ : MS) : Prop := ∃ B h, σ.1 54 = nI B ∧ B ≤ 870000 ∧ σ.1 55 = nI h ∧ h + c ≤ B + 870000
def KR (c : Nat) (r1 r2 : Int32 × MS) : Prop := (r1.2.1 56 = 0 ↔ r2.2.1 56 = 0) ∧ (r1.2.1 56 = 0 → (Rm c r1.2 ∧ Rm c r2.2) ∧ r1.2.1 57 = r2.2.1 57 ∧ ∃ a b, r1.1 = nI a ∧ r2.1 = nI b ∧ a < 1740000 ∧ b < 1740000 ∧ EVb (r1.2.2.2 28) (r2.2.2.2 28) a b)
theorem KR_er {c : Nat} {r1 r2 : Int32 × MS} (e1 : ¬ r1.2.1 56 = 0) (e2 : ¬ r2.2.1 56 = 0) : KR c r1 r2 := ⟨⟨fun z => absurd z e1, fun z => absurd z e2⟩, fun z => absurd z e1⟩
theorem Rm_HS {g : Nat → Prop} {l : List Nat} {B h c : Nat} {σ : MS} (hS : HS g l B h σ) (hr : h + c ≤ B + 870000) : Rm c σ := ⟨B, h, hS.1, by have := hS.2.1; omega, hS.2.2.1, hr⟩
theorem VQ_54 {g : Nat → Prop} {B h t w : Nat} {σ : MS} {r : Int32 × MS} (a : VQ g B h t w σ r) : r.2.1 54 = nI B ∧ B ≤ 870000 := by
  obtain ⟨_, _, _, a1, _⟩ := a
  have := a1.1.2.1
  exact ⟨a1.1.1, by omega⟩
theorem VO_54 {g : Nat → Prop} {B h t : Nat} {σ : MS} {r : Int32 × MS} (a : VO g B h t σ r) : r.2.1 54 = nI B ∧ B ≤ 870000 := VQ_54 (VQ_of (w := 0) a)
theorem KR_of {h1 h2 K B1 B2 c : Nat} {r1 r2 : Int32 × MS} (b1 : r1.2.1 54 = nI B1 ∧ B1 ≤ 870000) (b2 : r2.2.1 54 = nI B2 ∧ B2 ≤ 870000) (hc : h1 + K + c ≤ B1 + 870000 ∧ h2 + K + c ≤ B2 + 870000) (hq : KQ h1 h2 K r1 r2) (h57 : r1.2.1 57 = r2.2.1 57) : KR c r1 r2 := by
  obtain ⟨q1, q2, p1, p2, c1, c2, c3, c4⟩ := hq
  exact ⟨q1, fun z => ⟨⟨⟨B1, p1, b1.1, b1.2, c1, by omega⟩, ⟨B2, p2, b2.1, b2.2, c2, by omega⟩⟩, h57, q2 z⟩⟩
section KRD
variable {g1 g2 g1' g2' : Nat → Prop} {l1 l2 l1' l2' : List Nat} {B1 h1 B2 h2 h1' h2' B1' B2' n : Nat} {σ1 σ2 ρ1 ρ2 : MS}
/-- the same two objects, wherever they have come to lie -/
theorem OE_eo {v1 v2 kk p : Nat} {x y : Int32} (hS1 : HS g1' l1' B1' h1' ρ1) (hS2 : HS g2' l2' B2' h2' ρ2) (hO : OE g1 g2 (σ1.2.2 28) (σ2.2.2 28) v1 v2 kk p) (hk : 2 ≤ kk) (a : VC g1 g1' (σ1.2.2 28) (ρ1.2.2 28) (nI v1) x) (b : VC g1' g2' (ρ1.2.2 28) (ρ2.2.2 28) x y) : ∃ u1 u2, x = nI u1 ∧ y = nI u2 ∧ OE g1' g2' (ρ1.2.2 28) (ρ2.2.2 28) u1 u2 kk p := by
  obtain ⟨_, _, o3, _, _, o6, o7, _, _, _, o11, _, o13, _, _, _, _⟩ := hO
  obtain ⟨m, m', q1, q2, q3, q4, q5, q6, q7⟩ := a
  have e : v1 = m := (n_eq (by omega) (by omega)).mp q1
  subst e
  obtain ⟨c, d, r1, r2, r3, r4, r5, r6, r7⟩ := b
  have e : c = m' := (n_eq (by omega) (by omega)).mp (r1.symm.trans q3)
  subst e
  have hkd : kdN (ρ1.2.2 28) c = kk := (EVb_sz q5).2.2.trans o7
  obtain ⟨k', p', hE⟩ := OE_of hS1 hS2 (kdN_ge hS1 q4 (by omega)) r4 r5
  have ek : k' = kk := hE.2.2.2.2.2.2.1.symm.trans hkd
  have ep : p' = p := by
    have z := EVb_hd q5 o3 (i := 1) (by omega)
    have hp' := hE.2.2.2.2.2.1
    have z2 := hE.2.2.2.2.2.2.2.2.2.2.1
    rw [z, o11] at z2
    exact ((n_eq (by omega) (by omega)).mp z2).symm
  subst ek
  subst ep
  exact ⟨c, d, q3, r3, hE⟩
/-- midway in a reduction, on both sides -/
def KRd (t p w XC : Nat) (τ1 τ2 : MS) (gA : Nat → Prop) (lA : List Nat) (BA hA XA : Nat) (gB : Nat → Prop) (lB : List Nat) (BB hB XB : Nat) : Prop := MI (t + 2) XA gA lA BA hA τ1 ∧ MI (t + 2) XB gB lB BB hB τ2 ∧ RA (t + 2) gA gB τ1 τ2 ∧ (∃ v1 v2 kk, τ1.2.2 29 t = nI v1 ∧ τ2.2.2 29 t = nI v2 ∧ 5 ≤ kk ∧ OE gA gB (τ1.2.2 28) (τ2.2.2 28) v1 v2 kk p) ∧ τ1.1 59 = nI (t + 2) ∧ τ1.1 56 = 0 ∧ τ2.1 56 = 0 ∧ τ1.1 57 = nI w ∧ (w ≤ 60000 ∧ hA + 8600 ≤ BA + 870000 ∧ hB + 8600 ≤ BB + 870000) ∧ XA ≤ XC + 6 * w ∧ XB ≤ XC + 6 * w
def KLo (p t i : Nat) (N : Nat → Int32) : Prop := N 4 = nI p ∧ N 5 = nI t ∧ N 6 = nI i
theorem k_redE {m : Nat} {N1 N2 : Nat → Int32} {τ1 τ2 : MS} (e1 : ¬ τ1.1 56 = 0) (e2 : ¬ τ2.1 56 = 0) : Pm m (fun k => x_reduce k 14 N1 τ1) (fun k => x_reduce k 14 N2 τ2) (KR 8600) := by
  refine Pm_suc rfl (fun k => by rw [x_reduce]) (fun k => by rw [x_reduce]) (fun m1 _ => ?_)
  refine Pm_suc rfl (fun k => by rw [x_reduce]) (fun k => by rw [x_reduce]) (fun m2 _ => ?_)
  refine Pm_ite ⟨fun z => absurd z e1, fun z => absurd z e2⟩ (fun z _ => absurd z e1) (fun _ _ => ?_)
  refine Pm_suc rfl (fun k => by rw [x_reduce]) (fun k => by rw [x_reduce]) (fun m3 _ => ?_)
  refine Pm_suc rfl (fun k => by rw [x_reduce]) (fun k => by rw [x_reduce]) (fun m4 _ => ?_)
  exact Pm_some (KR_er e1 e2)
theorem k_red12E {m : Nat} {N1 N2 : Nat → Int32} {τ1 τ2 : MS} (n4 : N1 4 = N2 4) (n6 : N1 6 = N2 6) (e1 : ¬ τ1.1 56 = 0) (e2 : ¬ τ2.1 56 = 0) : Pm m (fun k => x_reduce k 12 N1 τ1) (fun k => x_reduce k 12 N2 τ2) (KR 8600) := by
  refine Pm_suc rfl (fun k => by rw [x_reduce]) (fun k => by rw [x_reduce]) (fun m1 _ => ?_)
  refine Pm_chk (fun _ _ => ?_)
  refine Pm_suc rfl (fun k => by rw [x_reduce]) (fun k => by rw [x_reduce]) (fun m2 _ => ?_)
  refine Pm_suc rfl (fun k => by rw [x_reduce]) (fun k => by rw [x_reduce]) (fun m3 _ => ?_)
  rw [show upd N1 6 (N1 6 + 1) 4 = upd N2 6 (N2 6 + 1) 4 from n4, show upd N1 6 (N1 6 + 1) 6 = upd N2 6 (N2 6 + 1) 6 by show N1 6 + 1 = N2 6 + 1; rw [n6]]
  refine Pm_ite Iff.rfl (fun _ _ => k_redE e1 e2) (fun _ _ => ?_)
  exact Pm_ite ⟨fun z => absurd z e1, fun z => absurd z e2⟩ (fun z _ => absurd z e1) (fun _ _ => k_redE e1 e2)
theorem k_red3 {t p XC : Nat} (ht : t ≤ 176000) (hXC : XC ≤ 408500) : ∀ (m i w : Nat) (N1 N2 : Nat → Int32) (τ1 τ2 : MS) (gA : Nat → Prop) (lA : List Nat) (BA hA XA : Nat) (gB : Nat → Prop) (lB : List Nat) (BB hB XB : Nat), i ≤ p → N1 1 = N2 1 → KLo p t i N1 → KLo p t i N2 → KRd t p w XC τ1 τ2 gA lA BA hA XA gB lB BB hB XB → Pm m (fun k => x_reduce k 3 N1 τ1) (fun k => x_reduce k 3 N2 τ2) (KR 8600) := by
  intro m
  induction m using Nat.strongRecOn with
  | ind m ih =>
  intro i w N1 N2 τ1 τ2 gA lA BA hA XA gB lB BB hB XB hi n1 hN1 hN2 hD
  obtain ⟨m1, m2, hR, ⟨v1, v2, kk, c1, c2, hk5, hO⟩, t1, e1, e2, w1, hw, x1, x2⟩ := hD
  have hp3 := hO.2.2.2.2.2.1
  have t2 : τ2.1 59 = nI (t + 2) := (hR.2.2.1 59 (by unfold AlS; omega)).symm.trans t1
  have w2 : τ2.1 57 = nI w := (hR.2.2.1 57 (by unfold AlS; omega)).symm.trans w1
  have vt1 : VC gA gB (τ1.2.2 28) (τ2.2.2 28) (τ1.2.2 29 (t + 1)) (τ2.2.2 29 (t + 1)) := hR.1 29 (t + 1) (Or.inl ⟨rfl, by omega⟩) (by unfold VwR; omega)
  have c14 : ∀ m', Pm m' (fun k => x_reduce k 14 N1 τ1) (fun k => x_reduce k 14 N2 τ2) (KR 8600) := fun m' => by
    refine Pm_suc rfl (fun k => by rw [x_reduce]) (fun k => by rw [x_reduce]) (fun k1 _ => ?_)
    refine Pm_suc rfl (fun k => by rw [x_reduce]) (fun k => by rw [x_reduce]) (fun k2 _ => ?_)
    rw [hN1.2.1, hN2.2.1, n_add1, n_cl (p := t + 1) (by omega)]
    refine Pm_ite ⟨fun _ => e2, fun _ => e1⟩ (fun _ _ => ?_) (fun z _ => absurd e1 z)
    refine Pm_chk (fun _ _ => ?_)
    refine Pm_suc rfl (fun k => by rw [x_reduce]) (fun k => by rw [x_reduce]) (fun k3 _ => ?_)
    obtain ⟨a, b, a1, a2, b1, b2, ev, ab, bb⟩ := vt1
    exact Pm_some ⟨⟨fun _ => e2, fun _ => e1⟩, fun _ => ⟨⟨Rm_HS m1.1 hw.2.1, Rm_HS m2.1 hw.2.2⟩, w1.trans w2.symm, a, b, a1, b1, ab, bb, ev⟩⟩
  refine Pm_suc rfl (fun k => by rw [x_reduce]) (fun k => by rw [x_reduce]) (fun k1 hk1 => ?_)
  rw [hN1.1, hN2.1, hN1.2.2, hN2.2.2, hN1.2.1, hN2.2.1]
  refine Pm_ite Iff.rfl (fun _ _ => c14 k1) (fun z _ => ?_)
  have hip : i < p := by
    by_cases c : i < p
    · exact c
    · exact absurd ((n_le (by omega) (by omega)).mpr (by omega)) z
  refine Pm_ite ⟨fun _ => e2, fun _ => e1⟩ (fun _ _ => ?_) (fun z _ => absurd e1 z)
  refine Pm_ob (k_sweep (XM := 780000) (by omega) m1 m2 hR t1 (by omega) (by omega) (by omega) rfl rfl) (fun r1 r2 hr => ?_)
  obtain ⟨gA', lA', BA', hA', gB', lB', BB', hB', a1, a2, a3, a4, a5, a6, a7, a8, a9⟩ := hr
  have d56 : r1.2.1 56 = 0 := (a6 56 (by decide) (by decide)).trans e1
  have f56 : r2.2.1 56 = 0 := (a7 56 (by decide) (by decide)).trans e2
  have d57 : r1.2.1 57 = nI w := (a6 57 (by decide) (by decide)).trans w1
  have f57 : r2.2.1 57 = nI w := (a7 57 (by decide) (by decide)).trans w2
  have d59 : r1.2.1 59 = nI (t + 2) := (a6 59 (by decide) (by decide)).trans t1
  have f59 : r2.2.1 59 = nI (t + 2) := (a7 59 (by decide) (by decide)).trans t2
  have va := a4.1 29 t (Or.inl ⟨rfl, by omega⟩)
  rw [c1] at va
  obtain ⟨u1, u2, y1, y2, hO'⟩ := OE_eo a1.1 a2.1 hO (by omega) va (a3.1 29 t (Or.inl ⟨rfl, by omega⟩) (by unfold VwR; omega))
  have vt : VC gA' gB' (r1.2.2.2 28) (r2.2.2.2 28) (r1.2.2.2 29 (t + 1)) (r2.2.2.2 29 (t + 1)) := a3.1 29 (t + 1) (Or.inl ⟨rfl, by omega⟩) (by unfold VwR; omega)
  have hO0 := hO'
  obtain ⟨gu1, gu2, o3, o4, o5, o6, o7, o8, o9, o10, o11, o12, o13, o14, o15, o16, o17⟩ := hO'
  have vm := o16 hk5 i hip
  obtain ⟨b1, b2, bb1, bb2, bb3, bb4, bb5, bb6, bb7⟩ := vt
  obtain ⟨q1, q2, qq1, qq2, qq3, qq4, qq5, qq6, qq7⟩ := vm
  rw [n_add1, n_cl (p := t) (by omega), n_cl (p := t + 1) (by omega), y1, y2, show nI u1 + 4 = nI (u1 + 4) from n_add (q := 4) (by omega), show nI u2 + 4 = nI (u2 + 4) from n_add (q := 4) (by omega), n_add (p := u1 + 4) (by omega), n_add (p := u2 + 4) (by omega), n_cl (p := u1 + 4 + i) (by omega), n_cl (p := u2 + 4 + i) (by omega), bb1, bb3, qq1, qq3, n1]
  refine Pm_chk (fun _ _ => ?_)
  refine Pm_chk (fun _ _ => ?_)
  refine Pm_chk (fun _ _ => ?_)
  -- what is put back
  have c12 : ∀ (m' w' : Nat) (M1 M2 : Nat → Int32) (υ1 υ2 : MS) (gC : Nat → Prop) (lC : List Nat) (BC hC XC1 : Nat) (gE : Nat → Prop) (lE : List Nat) (BE hE XE1 : Nat), m' < m → M1 1 = M2 1 → KLo p t i M1 → KLo p t i M2 → KRd t p w' XC (mAr υ1 29 (t + 1) (M1 7)) (mAr υ2 29 (t + 1) (M2 7)) gC lC BC hC XC1 gE lE BE hE XE1 → Pm m' (fun k => x_reduce k 12 M1 υ1) (fun k => x_reduce k 12 M2 υ2) (KR 8600) := by
    intro m' w' M1 M2 υ1 υ2 gC lC BC hC XC1 gE lE BE hE XE1 hm' j1 hM1 hM2 hD
    refine Pm_suc rfl (fun k => by rw [x_reduce]) (fun k => by rw [x_reduce]) (fun k2 hk2 => ?_)
    rw [hM1.2.1, hM2.2.1, n_add1, n_cl (p := t + 1) (by omega)]
    refine Pm_chk (fun _ _ => ?_)
    show Pm k2 (fun k => x_reduce k 13 M1 (mAr υ1 29 (t + 1) (M1 7))) (fun k => x_reduce k 13 M2 (mAr υ2 29 (t + 1) (M2 7))) _
    refine Pm_suc rfl (fun k => by rw [x_reduce]) (fun k => by rw [x_reduce]) (fun k3 hk3 => ?_)
    rw [hM1.2.2, hM2.2.2, n_add1]
    exact ih k3 (by omega) (i + 1) w' _ _ _ _ gC lC BC hC XC1 gE lE BE hE XE1 (by omega) j1 ⟨hM1.1, hM1.2.1, rfl⟩ ⟨hM2.1, hM2.2.1, rfl⟩ hD
  have hP1 : VP gA' lA' BA' hA' (t + 2) r1.2 := ⟨a1.1, d59, by omega, ⟨0, d56, by decide⟩⟩
  have hP2 : VP gB' lB' BB' hB' (t + 2) r2.2 := ⟨a2.1, f59, by omega, ⟨0, f56, by decide⟩⟩
  -- an operation on two of them
  have opr : ∀ (m' : Nat) (K1 K2 : Nat → Int32) (ρ1 ρ2 : MS) (gC : Nat → Prop) (lC : List Nat) (hC : Nat) (gE : Nat → Prop) (lE : List Nat) (hE : Nat) (z1 z2 s1 s2 : Nat), MI (t + 2) XA gC lC BA' hC ρ1 → MI (t + 2) XB gE lE BB' hE ρ2 → RA (t + 2) gC gE ρ1 ρ2 → ρ1.1 59 = nI (t + 2) → ρ2.1 59 = nI (t + 2) → ρ1.1 56 = 0 → ρ2.1 56 = 0 → hC ≤ hA' + 8204 → hE ≤ hB' + 8204 → VC gC gE (ρ1.2.2 28) (ρ2.2.2 28) (nI z1) (nI z2) → VC gC gE (ρ1.2.2 28) (ρ2.2.2 28) (nI s1) (nI s2) → z1 < 1740000 → z2 < 1740000 → s1 < 1740000 → s2 < 1740000 → K1 1 = K2 1 → K1 2 = nI z1 → K2 2 = nI z2 → K1 3 = nI s1 → K2 3 = nI s2 → LEn 4 K1 K2 → Pm m' (fun k => x_operate k 0 K1 ρ1) (fun k => x_operate k 0 K2 ρ2) (fun s1 s2 => (s1.2.1 56 = 0 ↔ s2.2.1 56 = 0) ∧ (s1.2.1 56 = 0 → ∃ (gC' : Nat → Prop) (lC' : List Nat) (hC' : Nat) (gE' : Nat → Prop) (lE' : List Nat) (hE' : Nat), HG gC BA' hC ρ1 s1.2 gC' lC' hC' ∧ HG gE BB' hE ρ2 s2.2 gE' lE' hE' ∧ FW (t + 2) ρ1 s1.2 ∧ FW (t + 2) ρ2 s2.2 ∧ s1.2.1 59 = nI (t + 2) ∧ s2.2.1 59 = nI (t + 2) ∧ VC gC' gE' (s1.2.2.2 28) (s2.2.2.2 28) s1.1 s2.1 ∧ hC' ≤ hC + 8204 ∧ hE' ≤ hE + 8204 ∧ MI (t + 2) XA gC' lC' BA' hC' s1.2 ∧ MI (t + 2) XB gE' lE' BB' hE' s2.2 ∧ RA (t + 2) gC' gE' s1.2 s2.2)) := by
    intro m' K1 K2 ρ1 ρ2 gC lC hC gE lE hE z1 z2 s1 s2 i1 i2 i3 i4 i5 i6 i7 i8 i9 vz vs jz1 jz2 js1 js2 k1 k2 k3 k4 k5 hK
    obtain ⟨y1, y2, yy1, yy2, yy3, yy4, yy5, yy6, yy7⟩ := vz
    have ez1 : z1 = y1 := (n_eq (by omega) (by omega)).mp yy1
    have ez2 : z2 = y2 := (n_eq (by omega) (by omega)).mp yy3
    subst ez1
    subst ez2
    obtain ⟨x1, x2, xx1, xx2, xx3, xx4, xx5, xx6, xx7⟩ := vs
    have es1 : s1 = x1 := (n_eq (by omega) (by omega)).mp xx1
    have es2 : s2 = x2 := (n_eq (by omega) (by omega)).mp xx3
    subst es1
    subst es2
    refine Pm_mono (Pm_wl (fun k => wl_operate k _ _ _) (fun k => wl_operate k _ _ _) (Pm_un (s_operate ⟨i1.1, i4, by omega, ⟨0, i6, by decide⟩⟩ yy2 xx2 (by exact k2) (by exact k4)) (fun k => f_operate k _ _ _) (s_operate ⟨i2.1, i5, by omega, ⟨0, i7, by decide⟩⟩ yy4 xx4 (by exact k3) (by exact k5)) (fun k => f_operate k _ _ _) (k_operate i1.1 i2.1 i6 i7 i4 i5 (by omega) (by omega) (by omega) yy2 yy4 yy5 xx2 xx4 xx5 k1 k2 k4 k3 k5 hK))) (fun s1 s2 hs => ?_)
    obtain ⟨⟨hq, o1, o2⟩, l1, l2⟩ := hs
    refine ⟨hq.1, fun z => ?_⟩
    obtain ⟨G1, M1, H1, G2, M2, H2, p1, p2, p3, p4, p5, p6, p7, p8, p9, p10⟩ := KQ_gr (by omega) i1.1 i2.1 o1 o2 hq z
    obtain ⟨q1, q2, q3⟩ := RA_gr i1 i2 i3 p1 p2 p3 p4 (p5.trans p6.symm) (by rw [l1, l2]; exact i3.2.2.2)
    exact ⟨G1, M1, H1, G2, M2, H2, p1, p2, p3, p4, p5, p6, p8, p9, p10, q1, q2, q3⟩
  -- a sum, a product
  have b4 : ∀ (m' : Nat) (M1 M2 : Nat → Int32), m' < m → M1 1 = M2 1 → KLo p t i M1 → KLo p t i M2 → M1 7 = nI b1 → M2 7 = nI b2 → M1 8 = nI q1 → M2 8 = nI q2 → Pm m' (fun k => x_reduce k 4 M1 r1.2) (fun k => x_reduce k 4 M2 r2.2) (KR 8600) := by
    intro m' M1 M2 hm' j1 hM1 hM2 j7 l7 j8 l8
    refine Pm_suc rfl (fun k => by rw [x_reduce]) (fun k => by rw [x_reduce]) (fun k2 hk2 => ?_)
    refine Pm_ob (opr k2 _ _ r1.2 r2.2 gA' lA' hA' gB' lB' hB' b1 b2 q1 q2 a1 a2 a3 d59 f59 d56 f56 (by omega) (by omega) ⟨b1, b2, rfl, bb2, rfl, bb4, bb5, bb6, bb7⟩ ⟨q1, q2, rfl, qq2, rfl, qq4, qq5, qq6, qq7⟩ bb6 bb7 qq6 qq7 j1 j7 l7 j8 l8 (fun j hj => ?_)) (fun s1 s2 hs => ?_)
    · rw [upd_other (by omega), upd_other (by omega), upd_other (by omega), upd_other (by omega), upd_other (by omega), upd_other (by omega)]
    obtain ⟨ee, hs⟩ := hs
    by_cases er : s1.2.1 56 = 0
    · obtain ⟨gC, lC, hC, gE, lE, hE, p1, p2, p3, p4, p5, p6, p7, p8, p9, p10, p11, p12⟩ := hs er
      obtain ⟨c, d, cc1, cc2, cc3, cc4, cc5, cc6, cc7⟩ := p7
      have er2 := ee.mp er
      have s57 : s1.2.1 57 = nI w := (p3.1 57 (by decide)).trans d57
      have u57 : s2.2.1 57 = nI w := (p4.1 57 (by decide)).trans f57
      refine Pm_ob (Pm_wl (fun k => wl_answer k _ _ _) (fun k => wl_answer k _ _ _) (k_answer p1.1 p2.1 cc2 cc4 cc5 er er2 s57 u57 (by omega) (by exact cc1) (by exact cc3))) (fun z1 z2 hz => ?_)
      obtain ⟨⟨i1, i2, i3, i4⟩, wl1, wl2⟩ := hz
      by_cases le : w + szN (s1.2.2.2 28) c ≤ 60000
      · have ys1 : ∀ j, j ≠ 56 → j ≠ 57 → z1.2.1 j = s1.2.1 j := fun j q1 q2 => WkO_s i3 q1 q2
        have ys2 : ∀ j, j ≠ 56 → j ≠ 57 → z2.2.1 j = s2.2.1 j := fun j q1 q2 => WkO_s i4 q1 q2
        have y57 : z1.2.1 57 = nI (w + szN (s1.2.2.2 28) c) := WkO_57 i3
        have zr1 := (WkO_er er i3).mpr le
        have zr2 := (WkO_er er2 i4).mpr le
        have mo1 : MI (t + 1) XA gC lC BA' hC s1.2 := MI_mo p10 (by omega)
        have mo2 : MI (t + 1) XB gE lE BB' hE s2.2 := MI_mo p11 (by omega)
        have st1 := MI_set mo1 cc2
        have st2 := MI_set mo2 cc4
        have ea1 : (mAr z1.2 29 (t + 1) (nI c)).2.2 = (mAr s1.2 29 (t + 1) (nI c)).2.2 := by
          show updG z1.2.2.2 29 (upd (z1.2.2.2 29) (t + 1) (nI c)) = updG s1.2.2.2 29 (upd (s1.2.2.2 29) (t + 1) (nI c))
          rw [WkO_a i3]
        have ea2 : (mAr z2.2 29 (t + 1) (nI d)).2.2 = (mAr s2.2 29 (t + 1) (nI d)).2.2 := by
          show updG z2.2.2.2 29 (upd (z2.2.2.2 29) (t + 1) (nI d)) = updG s2.2.2.2 29 (upd (s2.2.2.2 29) (t + 1) (nI d))
          rw [WkO_a i4]
        have rs := RA_set (w1 := 0) (w2 := 0) mo1.2.1 (RA_mo (show t + 1 ≤ t + 2 by omega) p12) ⟨c, d, rfl, cc2, rfl, cc4, cc5, cc6, cc7⟩
        have oo : ∃ w1 w2, s1.2.2.2 29 t = nI w1 ∧ s2.2.2.2 29 t = nI w2 ∧ OE gC gE (s1.2.2.2 28) (s2.2.2.2 28) w1 w2 kk p := by
          have g1 : s1.2.2.2 29 t = nI u1 := (p3.2.2 t (by omega)).trans y1
          have va := VC_gr a1.1 p1 (x := nI u1) ⟨u1, rfl, Or.inr gu1⟩
          have vb := p12.1 29 t (Or.inl ⟨rfl, by omega⟩) (by unfold VwR; omega)
          rw [g1] at vb
          obtain ⟨w1, w2, ww1, ww2, hE⟩ := OE_eo p1.1 p2.1 hO0 (by omega) va vb
          exact ⟨w1, w2, g1.trans ww1, ww2, hE⟩
        obtain ⟨w1', w2', ww1, ww2, hOE⟩ := oo
        refine c12 k2 (w + szN (s1.2.2.2 28) c) _ _ z1.2 z2.2 gC lC BA' hC (XA + 6 * szN (s1.2.2.2 28) c) gE lE BB' hE (XB + 6 * szN (s2.2.2.2 28) d) (by omega) j1 hM1 hM2 ?_
        show KRd t p (w + szN (s1.2.2.2 28) c) XC (mAr z1.2 29 (t + 1) z1.1) (mAr z2.2 29 (t + 1) z2.1) _ _ _ _ _ _ _ _ _ _
        rw [i1, i2]
        refine ⟨MI_c st1 (ys1 54 (by decide) (by decide)) (ys1 55 (by decide) (by decide)) (ys1 63 (by decide) (by decide)) (ys1 72 (by decide) (by decide)) ea1, MI_c st2 (ys2 54 (by decide) (by decide)) (ys2 55 (by decide) (by decide)) (ys2 63 (by decide) (by decide)) (ys2 72 (by decide) (by decide)) ea2, ?_, ⟨w1', w2', kk, ?_, ?_, hk5, ?_⟩, ?_, zr1, zr2, y57, ⟨le, by omega, by omega⟩, by omega, by rw [(EVb_sz cc5).1]; omega⟩
        · refine RA_c rs ea1 ea2 (ys1 63 (by decide) (by decide)) (ys1 72 (by decide) (by decide)) (ys1 22 (by decide) (by decide)) (ys1 24 (by decide) (by decide)) (ys1 30 (by decide) (by decide)) (ys1 44 (by decide) (by decide)) (fun j hj => ?_) ?_
          · show z1.2.1 j = z2.2.1 j
            by_cases e57 : j = 57
            · rw [e57, WkO_57 i3, WkO_57 i4]
            · rw [WkO_s i3 (by unfold AlS at hj; omega) e57, WkO_s i4 (by unfold AlS at hj; omega) e57]
              exact p12.2.2.1 j hj
          · show z1.2.2.1 96 = z2.2.2.1 96
            rw [wl1, wl2]; exact p12.2.2.2
        · rw [mAr_s, upd_other (by omega), WkO_a i3]; exact ww1
        · rw [mAr_s, upd_other (by omega), WkO_a i4]; exact ww2
        · rw [mAr_o (by decide), mAr_o (by decide), WkO_a i3, WkO_a i4]; exact hOE
        · exact (ys1 59 (by decide) (by decide)).trans p5
      · have zr1 : ¬ z1.2.1 56 = 0 := fun y => le ((WkO_er er i3).mp y)
        have zr2 : ¬ z2.2.1 56 = 0 := fun y => le ((WkO_er er2 i4).mp y)
        exact k_red12E (hM1.1.trans hM2.1.symm) (hM1.2.2.trans hM2.2.2.symm) zr1 zr2
    · have er2 : ¬ s2.2.1 56 = 0 := fun z => er (ee.mpr z)
      refine Pm_ob (Pm_t2 (P1 := fun r => r.2.1 56 = s1.2.1 56) (P2 := fun r => r.2.1 56 = s2.2.1 56) ?_ (fun k => f_answer k _ _ _) ?_ (fun k => f_answer k _ _ _)) (fun z1 z2 hz => ?_)
      · refine Tm_suc (fun k => by rw [x_answer]) ?_
        refine Tm_ite (fun z => absurd z er) (fun _ => ?_)
        refine Tm_suc (fun k => by rw [x_answer]) ?_
        exact Tm_some rfl
      · refine Tm_suc (fun k => by rw [x_answer]) ?_
        refine Tm_ite (fun z => absurd z er2) (fun _ => ?_)
        refine Tm_suc (fun k => by rw [x_answer]) ?_
        exact Tm_some rfl
      · exact k_red12E (hM1.1.trans hM2.1.symm) (hM1.2.2.trans hM2.2.2.symm) (by rw [hz.1]; exact er) (by rw [hz.2]; exact er2)
  -- the larger, the smaller
  have b9 : ∀ (m' : Nat) (M1 M2 : Nat → Int32) (ρ1 ρ2 : MS) (gC : Nat → Prop) (lC : List Nat) (hC : Nat) (gE : Nat → Prop) (lE : List Nat) (hE : Nat), m' < m → M1 1 = M2 1 → KLo p t i M1 → KLo p t i M2 → M1 7 = nI b1 → M2 7 = nI b2 → M1 8 = nI q1 → M2 8 = nI q2 → HG gA' BA' hA' r1.2 ρ1 gC lC hC → HG gB' BB' hB' r2.2 ρ2 gE lE hE → FW (t + 2) r1.2 ρ1 → FW (t + 2) r2.2 ρ2 → ρ1.1 59 = nI (t + 2) → MI (t + 2) XA gC lC BA' hC ρ1 → MI (t + 2) XB gE lE BB' hE ρ2 → RA (t + 2) gC gE ρ1 ρ2 → ρ1.1 56 = 0 → ρ2.1 56 = 0 → hC ≤ hA' + 16408 → hE ≤ hB' + 16408 → Pm m' (fun k => x_reduce k 9 M1 ρ1) (fun k => x_reduce k 9 M2 ρ2) (KR 8600) ∧ Pm m' (fun k => x_reduce k 10 M1 ρ1) (fun k => x_reduce k 10 M2 ρ2) (KR 8600) := by
    intro m' M1 M2 ρ1 ρ2 gC lC hC gE lE hE hm' j1 hM1 hM2 j7 l7 j8 l8 p1 p2 p3 p4 p5 p10 p11 p12 z1 z2 zc1 zc2
    have g1 : ρ1.2.2 29 t = nI u1 := (p3.2.2 t (by omega)).trans y1
    have g2 : ρ2.2.2 29 t = nI u2 := (p4.2.2 t (by omega)).trans y2
    have hOE : OE gC gE (ρ1.2.2 28) (ρ2.2.2 28) u1 u2 kk p := by
      have va := VC_gr a1.1 p1 (x := nI u1) ⟨u1, rfl, Or.inr gu1⟩
      have vb := p12.1 29 t (Or.inl ⟨rfl, by omega⟩) (by unfold VwR; omega)
      rw [g1, g2] at vb
      obtain ⟨w1, w2, ww1, ww2, hE⟩ := OE_eo p1.1 p2.1 hO0 (by omega) va vb
      have x1 := hE.2.2.2.2.2.2.2.2.2.2.2.2.1
      have x2 := hE.2.2.2.2.2.2.2.2.2.2.2.2.2.1
      have e1 : u1 = w1 := (n_eq (by omega) (by omega)).mp ww1
      have e2 : u2 = w2 := (n_eq (by omega) (by omega)).mp ww2
      subst e1
      subst e2
      exact hE
    have hx1 : ρ1.2.2 29 (t + 1) = nI b1 := (p3.2.2 (t + 1) (by omega)).trans bb1
    have hx2 : ρ2.2.2 29 (t + 1) = nI b2 := (p4.2.2 (t + 1) (by omega)).trans bb3
    have vb1 : BA' + 4 ≤ u1 ∧ u1 + 4 + p ≤ hA' := by
      obtain ⟨k', n', s', w', z1, z2, z3⟩ := HS_at a1.1 gu1
      have hn := z1.2.2.2.2.2.2.2.1
      have h1 := z1.2.1
      rw [o11] at h1
      have := (n_eq (by omega) (by omega)).mp h1
      omega
    have vb2 : BB' + 4 ≤ u2 ∧ u2 + 4 + p ≤ hB' := by
      obtain ⟨k', n', s', w', z1, z2, z3⟩ := HS_at a2.1 gu2
      have hn := z1.2.2.2.2.2.2.2.1
      have h1 := z1.2.1
      rw [o12] at h1
      have := (n_eq (by omega) (by omega)).mp h1
      omega
    have hm1 : ρ1.2.2 28 (u1 + 4 + i) = nI q1 := (p1.2.2.2 _ (by omega) (by omega)).trans qq1
    have hm2 : ρ2.2.2 28 (u2 + 4 + i) = nI q2 := (p2.2.2.2 _ (by omega) (by omega)).trans qq3
    have fin : ∀ (m'' : Nat) (O1 O2 : Nat → Int32), m'' < m → O1 1 = O2 1 → KLo p t i O1 → KLo p t i O2 → ((O1 100 = nI b1 ∧ O2 100 = nI b2) ∨ (O1 100 = nI q1 ∧ O2 100 = nI q2)) → Pm m'' (fun k => x_reduce k 11 O1 ρ1) (fun k => x_reduce k 11 O2 ρ2) (KR 8600) := by
      intro m'' O1 O2 hm'' k1 hO1 hO2 hor
      refine Pm_suc rfl (fun k => by rw [x_reduce]) (fun k => by rw [x_reduce]) (fun k3 hk3 => ?_)
      refine c12 k3 w _ _ ρ1 ρ2 gC lC BA' hC XA gE lE BB' hE XB (by omega) k1 hO1 hO2 ?_
      show KRd t p w XC (mAr ρ1 29 (t + 1) (O1 100)) (mAr ρ2 29 (t + 1) (O2 100)) _ _ _ _ _ _ _ _ _ _
      have vc : VC gC gE (ρ1.2.2 28) (ρ2.2.2 28) (O1 100) (O2 100) := by
        rcases hor with ⟨x, y⟩ | ⟨x, y⟩
        · rw [x, y, ← hx1, ← hx2]
          exact p12.1 29 (t + 1) (Or.inl ⟨rfl, by omega⟩) (by unfold VwR; omega)
        · rw [x, y, ← hm1, ← hm2]
          exact hOE.2.2.2.2.2.2.2.2.2.2.2.2.2.2.2.1 hk5 i hip
      refine ⟨MI_pick p10 g1 hOE.1 (by rw [hOE.2.2.2.2.2.2.1]; exact hk5) hOE.2.2.2.2.2.2.2.2.2.2.1 hp3 hip hm1 (qq2.imp id (p1.2.1 q1)) (by rw [hx1]; exact hor.imp (fun z => z.1) (fun z => z.1)), MI_pick p11 g2 hOE.2.1 (by rw [hOE.2.2.2.2.2.2.2.1]; exact hk5) hOE.2.2.2.2.2.2.2.2.2.2.2.1 hp3 hip hm2 (qq4.imp id (p2.2.1 q2)) (by rw [hx2]; exact hor.imp (fun z => z.2) (fun z => z.2)), RA_set (w1 := 0) (w2 := 0) p10.2.1 (RA_mo (show t + 1 ≤ t + 2 by omega) p12) vc, ⟨u1, u2, kk, ?_, ?_, hk5, ?_⟩, p5, z1, z2, (p3.1 57 (by decide)).trans d57, ⟨hw.1, by omega, by omega⟩, x1, x2⟩
      · rw [mAr_s, upd_other (by omega)]; exact g1
      · rw [mAr_s, upd_other (by omega)]; exact g2
      · rw [mAr_o (by decide), mAr_o (by decide)]; exact hOE
    constructor
    · refine Pm_suc rfl (fun k => by rw [x_reduce]) (fun k => by rw [x_reduce]) (fun k2 hk2 => ?_)
      exact fin k2 _ _ (by omega) j1 hM1 hM2 (Or.inr ⟨j8, l8⟩)
    · refine Pm_suc rfl (fun k => by rw [x_reduce]) (fun k => by rw [x_reduce]) (fun k2 hk2 => ?_)
      exact fin k2 _ _ (by omega) j1 hM1 hM2 (Or.inl ⟨j7, l7⟩)
  have tr2 : ∀ {gC gE : Nat → Prop} {H1 H2 : Nat → Int32} {x y : Int32}, VC gC gE H1 H2 x y → (x = 2 ↔ y = 2) := by
    intro gC gE H1 H2 x y h
    obtain ⟨c, d, c1, c2, c3, c4, c5, c6, c7⟩ := h
    rw [c1, c3]
    constructor
    · intro z
      have z := (n_eq (q := 2) (by omega) (by decide)).mp z
      rcases EVb_3 c5 with y | y
      · rw [y.2, z]; rfl
      · omega
    · intro z
      have z := (n_eq (q := 2) (by omega) (by decide)).mp z
      rcases EVb_3 c5 with y | y
      · rw [← y.2, z]; rfl
      · omega
  have b10E : ∀ (m' : Nat) (M1 M2 : Nat → Int32) (ρ1 ρ2 : MS), M1 4 = M2 4 → M1 6 = M2 6 → ¬ ρ1.1 56 = 0 → ¬ ρ2.1 56 = 0 → Pm m' (fun k => x_reduce k 10 M1 ρ1) (fun k => x_reduce k 10 M2 ρ2) (KR 8600) ∧ Pm m' (fun k => x_reduce k 9 M1 ρ1) (fun k => x_reduce k 9 M2 ρ2) (KR 8600) := by
    intro m' M1 M2 ρ1 ρ2 j4 j6 z1 z2
    constructor
    · refine Pm_suc rfl (fun k => by rw [x_reduce]) (fun k => by rw [x_reduce]) (fun k2 hk2 => ?_)
      refine Pm_suc rfl (fun k => by rw [x_reduce]) (fun k => by rw [x_reduce]) (fun k3 hk3 => ?_)
      exact k_red12E j4 j6 z1 z2
    · refine Pm_suc rfl (fun k => by rw [x_reduce]) (fun k => by rw [x_reduce]) (fun k2 hk2 => ?_)
      refine Pm_suc rfl (fun k => by rw [x_reduce]) (fun k => by rw [x_reduce]) (fun k3 hk3 => ?_)
      exact k_red12E j4 j6 z1 z2
  have b5 : ∀ (m' : Nat) (M1 M2 : Nat → Int32), m' < m → M1 1 = M2 1 → KLo p t i M1 → KLo p t i M2 → M1 7 = nI b1 → M2 7 = nI b2 → M1 8 = nI q1 → M2 8 = nI q2 → Pm m' (fun k => x_reduce k 5 M1 r1.2) (fun k => x_reduce k 5 M2 r2.2) (KR 8600) := by
    intro m' M1 M2 hm' j1 hM1 hM2 j7 l7 j8 l8
    refine Pm_suc rfl (fun k => by rw [x_reduce]) (fun k => by rw [x_reduce]) (fun k2 hk2 => ?_)
    refine Pm_ob (opr k2 _ _ r1.2 r2.2 gA' lA' hA' gB' lB' hB' b1 b2 q1 q2 a1 a2 a3 d59 f59 d56 f56 (by omega) (by omega) ⟨b1, b2, rfl, bb2, rfl, bb4, bb5, bb6, bb7⟩ ⟨q1, q2, rfl, qq2, rfl, qq4, qq5, qq6, qq7⟩ bb6 bb7 qq6 qq7 rfl j7 l7 j8 l8 (fun j hj => ?_)) (fun s1 s2 hs => ?_)
    · rw [upd_other (by omega), upd_other (by omega), upd_other (by omega), upd_other (by omega), upd_other (by omega), upd_other (by omega)]
    obtain ⟨ee, hs⟩ := hs
    have b7 : ∀ (m'' : Nat) (O1 O2 : Nat → Int32), m'' < m → O1 1 = O2 1 → KLo p t i O1 → KLo p t i O2 → O1 7 = nI b1 → O2 7 = nI b2 → O1 8 = nI q1 → O2 8 = nI q2 → O1 9 = s1.1 → O2 9 = s2.1 → O1 100 = O2 100 → Pm m'' (fun k => x_reduce k 7 O1 s1.2) (fun k => x_reduce k 7 O2 s2.2) (KR 8600) := by
      intro m'' O1 O2 hm'' k1 hO1 hO2 o7 l7 o8 l8 o9 l9 o100
      refine Pm_suc rfl (fun k => by rw [x_reduce]) (fun k => by rw [x_reduce]) (fun k3 hk3 => ?_)
      rw [o9, l9, o100]
      refine Pm_ite ee (fun er er2 => ?_) (fun er er2 => (b10E k3 (upd O1 10 (O2 100)) (upd O2 10 (O2 100)) _ _ (hO1.1.trans hO2.1.symm) (hO1.2.2.trans hO2.2.2.symm) er er2).1)
      obtain ⟨gC, lC, hC, gE, lE, hE, p1, p2, p3, p4, p5, p6, p7, p8, p9, p10, p11, p12⟩ := hs er
      have fin := b9 k3 (upd O1 10 (O2 100)) (upd O2 10 (O2 100)) s1.2 s2.2 gC lC hC gE lE hE (by omega) k1 hO1 hO2 o7 l7 o8 l8 p1 p2 p3 p4 p5 p10 p11 p12 er er2 (by omega) (by omega)
      refine Pm_ite Iff.rfl (fun _ _ => ?_) (fun _ _ => Pm_ite (tr2 p7) (fun _ _ => fin.1) (fun _ _ => fin.2))
      refine Pm_suc rfl (fun k => by rw [x_reduce]) (fun k => by rw [x_reduce]) (fun k4 hk4 => ?_)
      have vz : VC gC gE (s1.2.2.2 28) (s2.2.2.2 28) (nI q1) (nI q2) := VC_g2 a1.1 a2.1 p1 p2 ⟨q1, q2, rfl, qq2, rfl, qq4, qq5, qq6, qq7⟩
      have vs : VC gC gE (s1.2.2.2 28) (s2.2.2.2 28) (nI b1) (nI b2) := VC_g2 a1.1 a2.1 p1 p2 ⟨b1, b2, rfl, bb2, rfl, bb4, bb5, bb6, bb7⟩
      refine Pm_ob (opr k4 _ _ s1.2 s2.2 gC lC hC gE lE hE q1 q2 b1 b2 p10 p11 p12 p5 p6 er er2 p8 p9 vz vs qq6 qq7 bb6 bb7 rfl o8 l8 o7 l7 (fun j hj => ?_)) (fun z1 z2 hz => ?_)
      · rw [upd_other (by omega), upd_other (by omega), upd_other (by omega), upd_other (by omega), upd_other (by omega), upd_other (by omega)]
      obtain ⟨ff, hz⟩ := hz
      by_cases fr : z1.2.1 56 = 0
      · obtain ⟨gF, lF, hF, gH, lH, hH, r1', r2', r3', r4', r5', r6', r7', r8', r9', r10', r11', r12'⟩ := hz fr
        have fin2 := b9 k4 (upd O1 10 (O2 100)) (upd O2 10 (O2 100)) z1.2 z2.2 gF lF hF gH lH hH (by omega) k1 hO1 hO2 o7 l7 o8 l8 (HG_tr p1 r1') (HG_tr p2 r2') (FW_tr p3 r3') (FW_tr p4 r4') r5' r10' r11' r12' fr (ff.mp fr) (by omega) (by omega)
        exact Pm_ite (tr2 r7') (fun _ _ => fin2.1) (fun _ _ => fin2.2)
      · have fr2 : ¬ z2.2.1 56 = 0 := fun y => fr (ff.mpr y)
        have fe := b10E k4 (upd O1 10 (O2 100)) (upd O2 10 (O2 100)) z1.2 z2.2 (hO1.1.trans hO2.1.symm) (hO1.2.2.trans hO2.2.2.symm) fr fr2
        refine Pm_ite4 (fun _ _ => fe.2) (fun _ _ => ?_) (fun _ _ => ?_) (fun _ _ => fe.1)
        · refine Pm_suc rfl (fun k => by rw [x_reduce]) (fun k => by rw [x_reduce]) (fun k5 hk5 => ?_)
          refine Pm_suc rfl (fun k => by rw [x_reduce]) (fun k => by rw [x_reduce]) (fun k6 hk6 => ?_)
          exact k_red12E (hO1.1.trans hO2.1.symm) (hO1.2.2.trans hO2.2.2.symm) fr fr2
        · refine Pm_suc rfl (fun k => by rw [x_reduce]) (fun k => by rw [x_reduce]) (fun k5 hk5 => ?_)
          refine Pm_suc rfl (fun k => by rw [x_reduce]) (fun k => by rw [x_reduce]) (fun k6 hk6 => ?_)
          exact k_red12E (hO1.1.trans hO2.1.symm) (hO1.2.2.trans hO2.2.2.symm) fr fr2
    rw [j1]
    refine Pm_ite Iff.rfl (fun _ _ => b7 k2 _ _ (by omega) j1 hM1 hM2 j7 l7 j8 l8 rfl rfl rfl) (fun _ _ => ?_)
    refine Pm_suc rfl (fun k => by rw [x_reduce]) (fun k => by rw [x_reduce]) (fun k3 hk3 => ?_)
    exact b7 k3 _ _ (by omega) j1 hM1 hM2 j7 l7 j8 l8 rfl rfl rfl
  refine Pm_ite Iff.rfl (fun _ _ => b4 k1 _ _ (by omega) n1 hN1 hN2 rfl rfl rfl rfl) (fun _ _ => ?_)
  exact Pm_ite Iff.rfl (fun _ _ => b4 k1 _ _ (by omega) n1 hN1 hN2 rfl rfl rfl rfl) (fun _ _ => b5 k1 _ _ (by omega) n1 hN1 hN2 rfl rfl rfl rfl)
end KRD
