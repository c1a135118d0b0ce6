section JnS264
/-! Statements on both sides (reference): a member is taken out. -/
section EXS
variable {t w XC XC' : Nat} {σ1 σ2 : MS} {g1 g2 : Nat → Prop} {l1 l2 : List Nat} {B1 h1 X1 B2 h2 X2 : Nat}
theorem EIx_xc (hX : EIx t w XC σ1 σ2 g1 l1 B1 h1 X1 g2 l2 B2 h2 X2) (h : XC ≤ XC') (r1 : h1 + (XC' - 400000) + 10 ≤ B1 + 870000) (r2 : h2 + (XC' - 400000) + 10 ≤ B2 + 870000) : EIx t w XC' σ1 σ2 g1 l1 B1 h1 X1 g2 l2 B2 h2 X2 := by
  obtain ⟨m1, m2, hR, i1, i2, t1, e1, e2, w1, hw, x1, x2, ty, a, a1, a2⟩ := hX
  exact ⟨m1, m2, hR, i1, i2, t1, e1, e2, w1, ⟨hw.1, r1, r2⟩, by omega, by omega, ty, a, a1, a2⟩
theorem EIx_dn {u : Nat} (hu : u ≤ t) (hX : EIx t w XC σ1 σ2 g1 l1 B1 h1 X1 g2 l2 B2 h2 X2) : EIx u w XC (mSc σ1 59 (nI u)) (mSc σ2 59 (nI u)) g1 l1 B1 h1 X1 g2 l2 B2 h2 X2 := by
  obtain ⟨m1, m2, hR, i1, i2, t1, e1, e2, w1, hw, x1, x2, ty, a, a1, a2⟩ := hX
  exact ⟨MI_59 (MI_mo m1 hu), MI_59 (MI_mo m2 hu), RA_59 (RA_mo hu hR), IT_c rfl rfl rfl rfl i1, IT_c rfl rfl rfl rfl i2, rfl, e1, e2, w1, hw, x1, x2, ty, a, a1, a2⟩
/-- a value is pushed: X is told -/
theorem EIx_pu {x y : Int32} {Y1 Y2 : Nat} (hX : EIx t w XC σ1 σ2 g1 l1 B1 h1 X1 g2 l2 B2 h2 X2) (hv : VC g1 g2 (σ1.2.2 28) (σ2.2.2 28) x y) (n1 : MI (t + 1) Y1 g1 l1 B1 h1 (mPu σ1 t x)) (n2 : MI (t + 1) Y2 g2 l2 B2 h2 (mPu σ2 t y)) (y1 : Y1 ≤ XC + 6 * w) (y2 : Y2 ≤ XC + 6 * w) : EIx (t + 1) w XC (mPu σ1 t x) (mPu σ2 t y) g1 l1 B1 h1 Y1 g2 l2 B2 h2 Y2 := by
  obtain ⟨m1, m2, hR, i1, i2, t1, e1, e2, w1, hw, x1, x2, ⟨ty1, ty2⟩, a, a1, a2⟩ := hX
  refine ⟨n1, n2, RA_pu m1.2.1 hR hv, IT_c (mPu_s (by decide)) (mPu_o (by decide)) (mPu_o (by decide)) (mPu_o (by decide)) i1, IT_c (mPu_s (by decide)) (mPu_o (by decide)) (mPu_o (by decide)) (mPu_o (by decide)) i2, rfl, ?_, ?_, ?_, hw, y1, y2, ⟨?_, ?_⟩, a, ?_, a2⟩
  · rw [mPu_s (by decide)]; exact e1
  · rw [mPu_s (by decide)]; exact e2
  · rw [mPu_s (by decide)]; exact w1
  · rw [mPu_o (by decide)]; exact ty1
  · rw [mPu_o (by decide), mPu_o (by decide)]; exact ty2
  · rw [mPu_s (by decide)]; exact a1
theorem EIx_pr {x y : Int32} (hX : EIx t w XC σ1 σ2 g1 l1 B1 h1 X1 g2 l2 B2 h2 X2) (hv : VC g1 g2 (σ1.2.2 28) (σ2.2.2 28) x y) (hx : ∃ m, x = nI m ∧ (m < 3 ∨ Rch (σ1.2.2 28) (RoS t σ1) m)) (hy : ∃ m, y = nI m ∧ (m < 3 ∨ Rch (σ2.2.2 28) (RoS t σ2) m)) : EIx (t + 1) w XC (mPu σ1 t x) (mPu σ2 t y) g1 l1 B1 h1 X1 g2 l2 B2 h2 X2 := by
  obtain ⟨m, mm1, mm2⟩ := hx
  obtain ⟨q, q1, q2⟩ := hy
  have hX0 := hX
  obtain ⟨m1, m2, hR, i1, i2, t1, e1, e2, w1, hw, x1, x2, _⟩ := hX0
  exact EIx_pu hX hv (by rw [mm1]; exact MI_pur m1 mm2) (by rw [q1]; exact MI_pur m2 q2) x1 x2
end EXS
/-- the top's value is another -/
theorem mAr_pu {ρ : MS} {t : Nat} {x : Int32} (h59 : ρ.1 59 = nI (t + 1)) : mPu (mSc ρ 59 (nI t)) t x = mAr ρ 29 t x := by
  have e1 : upd (upd ρ.1 59 (nI t)) 59 (nI (t + 1)) = ρ.1 := by
    funext i
    by_cases e : i = 59
    · rw [e, upd_same, h59]
    · rw [upd_other e, upd_other e]
  show (upd (upd ρ.1 59 (nI t)) 59 (nI (t + 1)), ρ.2.1, updG ρ.2.2 29 (upd (ρ.2.2 29) t x)) = (ρ.1, ρ.2.1, updG ρ.2.2 29 (upd (ρ.2.2 29) t x))
  rw [e1]
theorem sz_ch {g : Nat → Prop} {l : List Nat} {B h m : Nat} {σ : MS} (hS : HS g l B h σ) (hm : g m) (k4 : σ.2.2 28 m = nI 4) (l1 : σ.2.2 28 (m + 1) = nI 1) : szN (σ.2.2 28) m = 2 := by
  obtain ⟨_, k, n, s, hh, c1, c2, c3, c4, c5, c6, c7, c8, c9, c10, c11, c12⟩ := hS.2.2.2.2.2 m hm
  have ek : k = 4 := (n_eq (by omega) (by decide)).mp (c1.symm.trans k4)
  have en : n = 1 := (n_eq (by omega) (by decide)).mp (c2.symm.trans l1)
  have e := c11 ek
  rw [en] at e
  obtain ⟨_, _, _, h4, _⟩ := ob_at hS hm
  unfold szN
  rw [if_neg (by omega), c3, n_cl (p := s) (by omega), e]
section OQM
variable {T : Nat → Nat → Int32} {FN : Nat → Nat → Prop} {S : Nat → Nat → Nat → Nat → Prop} {t w w2 XC : Nat} {σ1 σ2 r1 r2 : MS}
theorem OuQ_mo (h : OuQ T FN S t w2 XC σ1 σ2 r1 r2) (hw : w ≤ w2) : OuQ T FN S t w XC σ1 σ2 r1 r2 := by
  rcases h with ⟨w', h1, h2, h3⟩ | h
  · exact Or.inl ⟨w', by omega, h2, h3⟩
  · exact Or.inr h
end OQM
section TKF
variable {T : Nat → Nat → Int32} {FN : Nat → Nat → Prop} {S : Nat → Nat → Nat → Nat → Prop} {t w XC : Nat} {σ1 σ2 : MS}
/-- a member is taken out -/
theorem E_takeFrom (hW : SWf T FN S) (hXC : XC ≤ 400900) {c un d v n w' ka kb sa sb : Nat} {cha chb : Nat → Nat} {F : List Nat} {τ1 τ2 : MS} (hw : w ≤ w') (hM : Mid T FN S t w' XC σ1 σ2 τ1 τ2) (hP : Pos T S c un d v n F τ1) (hTa : Tgt T FN (lcU un T) ka cha) (hNa : NmW T (lcU un T) (cnU un T) (cha 0) sa) (hTb : Tgt T FN (lcU un T) kb chb) (hNb : NmW T (lcU un T) (cnU un T) (chb 0) sb) (x5 : T 5 n = nI (cha ka)) (x6 : T 6 n = nI (chb kb)) (ht : t + kys T cha ka + kys T chb kb + 14 + KBn T ≤ 17000) {L1 L2 : Nat → Int32} (d1 : L1 1 = nI n) (d2 : L2 1 = nI n) : T2 (fun k => x_takeFrom k 0 L1 τ1) (fun k => x_takeFrom k 0 L2 τ2) (fun r1 r2 => OuE T FN S w σ1 σ2 r1.2 r2.2) := by
  obtain ⟨hE, U1, U2, B1, B2, kp⟩ := id hM
  have w6 := EI_w hE
  obtain ⟨_, _, ⟨n7, _, _⟩, pb3, pb4⟩ := Pos_b hW hP
  have hSc := Pos_sc B1 hP
  have hSc2 := Sc1_ei hSc hE
  obtain ⟨s1, s2⟩ := EI_59 hE
  have kga := kys_ge (T := T) (ch := cha) (i := ka)
  have kgb := kys_ge (T := T) (ch := chb) (i := kb)
  generalize eKA : kys T cha ka = KA at *
  generalize eKB : kys T chb kb = KB at *
  have fz : ∀ (b : Nat) (ν1 ν2 : MS), FSt τ1 ν1 → FSt τ2 ν2 → UT ν1 → UT ν2 → b ≤ 179400 → EZ t b ν1 → EZ t b ν2 → OuE T FN S w σ1 σ2 ν1 ν2 := fun b ν1 ν2 f1 f2 V1 V2 hb z1 z2 => ⟨t, XC, by omega, OuQ_z (I := fun _ => False) hM (FC_fs f1) (FC_fs f2) V1 V2 hb z1 z2⟩
  -- the last write, pass
  have tenZ : ∀ (ν1 ν2 : MS) (K1 K2 : Nat → Int32), FSt τ1 ν1 → FSt τ2 ν2 → UT ν1 → UT ν2 → EZ t 179400 ν1 → EZ t 179400 ν2 → T2 (fun k => x_takeFrom k 10 K1 ν1) (fun k => x_takeFrom k 10 K2 ν2) (fun r1 r2 => OuE T FN S w σ1 σ2 r1.2 r2.2) := by
    intro ν1 ν2 K1 K2 f1 f2 V1 V2 z1 z2
    refine T2_suc (fun k => by rw [x_takeFrom]) (fun k => by rw [x_takeFrom]) ?_
    refine T2_ob (T2_t (s_writeZ (EZ_le z1)) (s_writeZ (EZ_le z2))) (fun r1 r2 hr => ?_)
    rw [hr.1, hr.2]
    refine T2_ob (T2_t (s_passZ (EZ_e z1)) (s_passZ (EZ_e z2))) (fun r1 r2 hr => ?_)
    rw [hr.1, hr.2]
    exact T2_some (fz 179400 ν1 ν2 f1 f2 V1 V2 (by omega) z1 z2)
  have ten : ∀ (w2 XD TT TP : Nat) (ν1 ν2 : MS) (K1 K2 : Nat → Int32), XD ≤ 401000 → w ≤ w2 → TT < TP → t + KA ≤ TP → TP ≤ 60000 → TP + 9 + KBn T ≤ w2 + 17000 → FSt τ1 ν1 → FSt τ2 ν2 → UT ν1 → UT ν2 → EI TP w2 XD ν1 ν2 → K1 1 = nI n → K2 1 = nI n → K1 2 = nI (cha ka) → K2 2 = nI (cha ka) → K1 4 = nI t → K2 4 = nI t → K1 9 = nI TT → K2 9 = nI TT → T2 (fun k => x_takeFrom k 10 K1 ν1) (fun k => x_takeFrom k 10 K2 ν2) (fun r1 r2 => OuE T FN S w σ1 σ2 r1.2 r2.2) := by
    intro w2 XD TT TP ν1 ν2 K1 K2 hXD hw2 h1 h2 h3 h4 f1 f2 V1 V2 hJ k1 l1 k2 l2 k4 l4 k9 l9
    refine T2_suc (fun k => by rw [x_takeFrom]) (fun k => by rw [x_takeFrom]) ?_
    refine T2_ob (E_write (u := t) (p := TT) (by omega) hTa hNa (by omega) (by omega) h1 (Sc1_fs hSc f1) hJ V1 V2 (by exact k2) (by exact l2) (by exact k4) (by exact l4) (by exact k9) (by exact l9)) (fun r1 r2 hr => ?_)
    obtain ⟨c1, c2, c3, c4, c5⟩ := hr
    have G1 := FS_tr f1 c1
    have G2 := FS_tr f2 c2
    rcases c5 with ⟨w3, hw3, hK⟩ | ⟨z1, z2⟩
    · refine T2_ob (E_pass (t := TP) (w := w3) hW hXD (by omega) (Nat.le_refl _) (Mid_fc (I := fun _ => False) hM (FC_fs G1) (FC_fs G2) hK c3 c4) (Pos_fs hW G1 hP) (by exact k1) (by exact l1)) (fun r1 r2 hr => T2_some ⟨TP, XD, hXD, OuQ_mo hr (by omega)⟩)
    · refine T2_ob (T2_t (s_passZ (EZ_e z1)) (s_passZ (EZ_e z2))) (fun r1 r2 hr => ?_)
      rw [hr.1, hr.2]
      exact T2_some (fz 179301 _ _ G1 G2 c3 c4 (by omega) (EZ_mo z1 (by omega) (Nat.le_refl _)) (EZ_mo z2 (by omega) (Nat.le_refl _)))
  -- with an error
  have twoZ : ∀ (ρ1 ρ2 : MS) (K1 K2 : Nat → Int32), FE τ1 ρ1 → FE τ2 ρ2 → EZ t 179300 ρ1 → EZ t 179300 ρ2 → T2 (fun k => x_takeFrom k 2 K1 ρ1) (fun k => x_takeFrom k 2 K2 ρ2) (fun r1 r2 => OuE T FN S w σ1 σ2 r1.2 r2.2) := by
    intro ρ1 ρ2 K1 K2 f1 f2 z1 z2
    refine T2_suc (fun k => by rw [x_takeFrom]) (fun k => by rw [x_takeFrom]) ?_
    refine T2_ite ⟨fun z => absurd z (EZ_le z1), fun z => absurd z (EZ_le z2)⟩ (fun z _ => absurd z (EZ_le z1)) (fun _ _ => ?_)
    exact T2_some (fz 179300 _ _ (FS_fe f1) (FS_fe f2) (UT_fe f1 U1) (UT_fe f2 U2) (by omega) z1 z2)
  have oneZ : ∀ (ρ1 ρ2 : MS) (K1 K2 : Nat → Int32), FE τ1 ρ1 → FE τ2 ρ2 → EZ t 179300 ρ1 → EZ t 179300 ρ2 → T2 (fun k => x_takeFrom k 1 K1 ρ1) (fun k => x_takeFrom k 1 K2 ρ2) (fun r1 r2 => OuE T FN S w σ1 σ2 r1.2 r2.2) := by
    intro ρ1 ρ2 K1 K2 f1 f2 z1 z2
    refine T2_suc (fun k => by rw [x_takeFrom]) (fun k => by rw [x_takeFrom]) ?_
    refine T2_ite ⟨fun z => absurd z (EZ_e z1), fun z => absurd z (EZ_e z2)⟩ (fun z _ => absurd z (EZ_e z1)) (fun _ _ => ?_)
    exact twoZ ρ1 ρ2 _ _ f1 f2 z1 z2
  -- the member is out
  have nine : ∀ (w2 XD m i p va vb : Nat) (ξ1 ξ2 : MS) (g1 : Nat → Prop) (l1 : List Nat) (D1 h1 X1 : Nat) (g2 : Nat → Prop) (l2 : List Nat) (D2 h2 X2 : Nat) (K1 K2 : Nat → Int32), XD ≤ 401000 → w ≤ w2 → t + KA + KB ≤ m → m ≤ 50000 → m + 3 + 9 + KBn T ≤ w2 + 17000 → FE τ1 ξ1 → FE τ2 ξ2 → EIx (m + 2) w2 XD ξ1 ξ2 g1 l1 D1 h1 X1 g2 l2 D2 h2 X2 → h1 + 20000 ≤ D1 + 870000 → h2 + 20000 ≤ D2 + 870000 → va < 1740000 → vb < 1740000 → ξ1.2.2 29 m = nI va → ξ2.2.2 29 m = nI vb → 4 ≤ kdN (ξ1.2.2 28) va → ξ1.2.2 28 (va + 1) = nI p → p ≤ 3996 → i < p → K1 1 = nI n → K2 1 = nI n → K1 2 = nI (cha ka) → K2 2 = nI (cha ka) → K1 3 = nI (chb kb) → K2 3 = nI (chb kb) → K1 4 = nI t → K2 4 = nI t → K1 5 = nI (t + KA) → K2 5 = nI (t + KA) → K1 6 = nI va → K2 6 = nI vb → K1 9 = nI (m + 1) → K2 9 = nI (m + 1) → K1 10 = nI i → K2 10 = nI i → T2 (fun k => x_takeFrom k 9 K1 ξ1) (fun k => x_takeFrom k 9 K2 ξ2) (fun r1 r2 => OuE T FN S w σ1 σ2 r1.2 r2.2) := by
    intro w2 XD m i p va vb ξ1 ξ2 g1 l1 D1 h1 X1 g2 l2 D2 h2 X2 K1 K2 hXD hw2 hm1 hm2 hm3 f1 f2 hX rm1 rm2 bva bvb pv1 pv2 k4 ln hp hip k1 l1' k2 l2' k3 l3 k4' l4 k5 l5 k6 l6 k9 l9 k10 l10
    have hX0 := hX
    obtain ⟨m1, m2, aR, j1, j2, t1, o1, o2, ww, hww, xx1, xx2, ⟨ty1, ty2⟩, a, z1, z2⟩ := hX
    have t2 : ξ2.1 59 = nI (m + 2) := (aR.2.2.1 59 (by unfold AlS; omega)).symm.trans t1
    obtain ⟨ya, yb, a1, a2, a3, a4, a5, a6, a7⟩ := aR.1 29 m (Or.inl ⟨rfl, by omega⟩) (by unfold VwR; omega)
    have ea : ya = va := (n_eq (by omega) (by omega)).mp (a1.symm.trans pv1)
    have eb : yb = vb := (n_eq (by omega) (by omega)).mp (a3.symm.trans pv2)
    subst ea
    subst eb
    have ga := kdN_ge m1.1 a2 (by omega)
    obtain ⟨kx, p', hO⟩ := OE_of m1.1 m2.1 ga a4 a5
    have hO0 := hO
    obtain ⟨gv1, gv2, o3, o4, o5, o6, o7, o8, o9, o10, o11, o12, o13, o14, o15, o16, o17⟩ := hO0
    have ep : p' = p := (n_eq (by omega) (by omega)).mp (o11.symm.trans ln)
    subst ep
    have P1 : VP g1 l1 D1 h1 (m + 2) ξ1 := ⟨m1.1, t1, by omega, ⟨0, o1, by decide⟩⟩
    have P2 : VP g2 l2 D2 h2 (m + 2) ξ2 := ⟨m2.1, t2, by omega, ⟨0, o2, by decide⟩⟩
    refine T2_suc (fun k => by rw [x_takeFrom]) (fun k => by rw [x_takeFrom]) ?_
    refine T2_ob (E_op hX0 (s_without P1 gv1 k4 o11 (by omega) o6 (by exact k6)) (s_without P2 gv2 (by rw [o8, ← o7]; exact k4) o12 (by omega) o6 (by exact l6)) (fun n => k_without (i := i) m1.1 m2.1 o1 o2 t1 t2 (by omega) (by omega) (by omega) hO (by rw [← o7]; exact k4) hip (by exact k6) (by exact l6) (by exact k10) (fun j hj => ?_)) (fun k => wl_without k _ _ _) (fun k => wl_without k _ _ _) (c := 8600) (by omega)) (fun q1 q2 hq => ?_)
    · by_cases e2 : j = 2
      · rw [e2]
        show K1 10 = K2 10
        rw [k10, l10]
      · rw [upd_other e2, upd_other e2, upd_other (by omega), upd_other (by omega)]
    obtain ⟨u1, u2, u3, u4, u5⟩ := hq
    refine E_ans m1 m2 aR j1 j2 (by omega) ty1 ty2 ⟨a, u4.trans z1, z2⟩ (u4.trans ((aR.2.2.1 95 (by unfold AlS; omega)).trans u5.symm)) u1 u2 u3 (fun v1 v2 h1' h2' hv => ?_)
    have F1 := FE_tr f1 h1'
    have F2 := FE_tr f2 h2'
    have V1 := UT_fe F1 U1
    have V2 := UT_fe F2 U2
    rw [k3, l3, k5, l5, k9, l9, n_add1]
    rcases hv with ⟨w3, hw3, hJ⟩ | ⟨y1, y2⟩
    · refine T2_ob (E_write (u := t + KA) (p := m + 2) (by omega) hTb hNb (by omega) (by omega) (by omega) (Sc1_fs hSc (FS_fe F1)) hJ V1 V2 rfl rfl rfl rfl rfl rfl) (fun r1 r2 hr => ?_)
      obtain ⟨c1, c2, c3, c4, c5⟩ := hr
      rcases c5 with ⟨w4, hw4, hK⟩ | ⟨y1, y2⟩
      · exact ten w4 XD (m + 1) (m + 2 + 1) r1.2 r2.2 _ _ hXD (by omega) (by omega) (by omega) (by omega) (by omega) (FS_tr (FS_fe F1) c1) (FS_tr (FS_fe F2) c2) c3 c4 hK k1 l1' k2 l2' k4' l4 k9 l9
      · exact tenZ r1.2 r2.2 _ _ (FS_tr (FS_fe F1) c1) (FS_tr (FS_fe F2) c2) c3 c4 (EZ_mo y1 (by omega) (by omega)) (EZ_mo y2 (by omega) (by omega))
    · refine T2_ob (T2_t (s_writeZ (EZ_le y1)) (s_writeZ (EZ_le y2))) (fun r1 r2 hr => ?_)
      rw [hr.1, hr.2]
      exact tenZ v1.2 v2.2 _ _ (FS_fe F1) (FS_fe F2) V1 V2 (EZ_mo y1 (by omega) (by omega)) (EZ_mo y2 (by omega) (by omega))
  -- behind the sweep: what is taken
  have six : ∀ (w2 m va vb kx p : Nat) (ξ1 ξ2 : MS) (g1 : Nat → Prop) (l1 : List Nat) (D1 h1 X1 : Nat) (g2 : Nat → Prop) (l2 : List Nat) (D2 h2 X2 : Nat) (K1 K2 : Nat → Int32), w ≤ w2 → t + KA + KB ≤ m → m ≤ 50000 → m + 3 + 9 + KBn T ≤ w2 + 17000 → FE τ1 ξ1 → FE τ2 ξ2 → EIx (m + 1) w2 XC ξ1 ξ2 g1 l1 D1 h1 X1 g2 l2 D2 h2 X2 → h1 + 79900 ≤ D1 + 870000 → h2 + 79900 ≤ D2 + 870000 → ξ1.2.2 29 m = nI va → ξ2.2.2 29 m = nI vb → va < 1740000 → vb < 1740000 → 4 ≤ kx → OE g1 g2 (ξ1.2.2 28) (ξ2.2.2 28) va vb kx p → K1 1 = nI n → K2 1 = nI n → K1 2 = nI (cha ka) → K2 2 = nI (cha ka) → K1 3 = nI (chb kb) → K2 3 = nI (chb kb) → K1 4 = nI t → K2 4 = nI t → K1 5 = nI (t + KA) → K2 5 = nI (t + KA) → K1 6 = nI va → K2 6 = nI vb → T2 (fun k => x_takeFrom k 6 K1 ξ1) (fun k => x_takeFrom k 6 K2 ξ2) (fun r1 r2 => OuE T FN S w σ1 σ2 r1.2 r2.2) := by
    intro w2 m va vb kx p ξ1 ξ2 g1 l1 D1 h1 X1 g2 l2 D2 h2 X2 K1 K2 hw2 hm1 hm2 hm3 f1 f2 hX rm1 rm2 pv1 pv2 bva bvb hk4 hO k1 l1' k2 l2' k3 l3 k4 l4 k5 l5 k6 l6
    have hO0 := hO
    obtain ⟨gv1, gv2, o3, o4, o5, o6, o7, o8, o9, o10, o11, o12, o13, o14, o15, o16, o17⟩ := hO0
    have t1 : ξ1.1 59 = nI (m + 1) := hX.2.2.2.2.2.1
    have t2 : ξ2.1 59 = nI (m + 1) := (hX.2.2.1.2.2.1 59 (by unfold AlS; omega)).symm.trans t1
    have hXp : EIx (m + 2) w2 XC (mPu ξ1 (m + 1) 0) (mPu ξ2 (m + 1) 0) g1 l1 D1 h1 X1 g2 l2 D2 h2 X2 := EIx_pr hX VC_00 ⟨0, rfl, Or.inl (by decide)⟩ ⟨0, rfl, Or.inl (by decide)⟩
    have hXq : EIx (m + 2) w2 (XC + 20) (mPu ξ1 (m + 1) 0) (mPu ξ2 (m + 1) 0) g1 l1 D1 h1 X1 g2 l2 D2 h2 X2 := EIx_xc hXp (by omega) (by omega) (by omega)
    have F1 : FE τ1 (mPu ξ1 (m + 1) 0) := FE_tr f1 FE_pu
    have F2 : FE τ2 (mPu ξ2 (m + 1) 0) := FE_tr f2 FE_pu
    have xb1 := hX.2.2.2.2.2.2.2.2.2.2.1
    have xb2 := hX.2.2.2.2.2.2.2.2.2.2.2.1
    refine T2_suc (fun k => by rw [x_takeFrom]) (fun k => by rw [x_takeFrom]) ?_
    rw [k6, l6, n_add1, n_add1]
    refine T2_chk (n_in (by omega) (by omega)) (n_in (by omega) (by omega)) ?_
    refine T2_ob (T2_t (s_push t1 (by omega) _) (s_push t2 (by omega) _)) (fun r1 r2 hr => ?_)
    rw [hr.1, hr.2, n_cl (p := va + 1) (by omega), n_cl (p := vb + 1) (by omega), o11, o12, t1, t2, k1, l1']
    show T2 (fun k => if nI p ≤ 0 then x_takeFrom k 10 (upd (upd K1 8 (nI p)) 9 (nI (m + 1))) (mPu ξ1 (m + 1) 0) else if ¬ (nI n < 0 ∨ 70000 ≤ (nI n).toNatClampNeg) then (if (mPu ξ1 (m + 1) 0).2.2 7 (nI n).toNatClampNeg = 27 then x_takeFrom k 8 (upd (upd (upd K1 8 (nI p)) 9 (nI (m + 1))) 100 (nI p - 1)) (mPu ξ1 (m + 1) 0) else x_takeFrom k 7 (upd (upd K1 8 (nI p)) 9 (nI (m + 1))) (mPu ξ1 (m + 1) 0)) else none) (fun k => if nI p ≤ 0 then x_takeFrom k 10 (upd (upd K2 8 (nI p)) 9 (nI (m + 1))) (mPu ξ2 (m + 1) 0) else if ¬ (nI n < 0 ∨ 70000 ≤ (nI n).toNatClampNeg) then (if (mPu ξ2 (m + 1) 0).2.2 7 (nI n).toNatClampNeg = 27 then x_takeFrom k 8 (upd (upd (upd K2 8 (nI p)) 9 (nI (m + 1))) 100 (nI p - 1)) (mPu ξ2 (m + 1) 0) else x_takeFrom k 7 (upd (upd K2 8 (nI p)) 9 (nI (m + 1))) (mPu ξ2 (m + 1) 0)) else none) _
    have bU1 := UT_fe F1 U1
    have bU2 := UT_fe F2 U2
    have pq1 : (mPu ξ1 (m + 1) 0).2.2 29 m = nI va := by
      show (mAr ξ1 29 (m + 1) 0).2.2 29 m = _
      rw [mAr_s, upd_other (by omega)]; exact pv1
    have pq2 : (mPu ξ2 (m + 1) 0).2.2 29 m = nI vb := by
      show (mAr ξ2 29 (m + 1) 0).2.2 29 m = _
      rw [mAr_s, upd_other (by omega)]; exact pv2
    have c28 : (mPu ξ1 (m + 1) 0).2.2 28 = ξ1.2.2 28 := mPu_o (by decide)
    have d28 : (mPu ξ2 (m + 1) 0).2.2 28 = ξ2.2.2 28 := mPu_o (by decide)
    have s7 : (mPu ξ1 (m + 1) 0).2.2 7 n = T 7 n := (STb_fe B1.1 F1).1 7 n (by omega) (by omega) (by omega)
    have s7' : (mPu ξ2 (m + 1) 0).2.2 7 n = T 7 n := (STb_fe B2.1 F2).1 7 n (by omega) (by omega) (by omega)
    have p59 : (mPu ξ1 (m + 1) 0).1 59 = nI (m + 2) := rfl
    have q59 : (mPu ξ2 (m + 1) 0).1 59 = nI (m + 2) := rfl
    generalize mPu ξ1 (m + 1) 0 = μ1 at *
    generalize mPu ξ2 (m + 1) 0 = μ2 at *
    -- one member
    have eight : ∀ (i : Nat) (J1 J2 : Nat → Int32), i < p → J1 1 = nI n → J2 1 = nI n → J1 2 = nI (cha ka) → J2 2 = nI (cha ka) → J1 3 = nI (chb kb) → J2 3 = nI (chb kb) → J1 4 = nI t → J2 4 = nI t → J1 5 = nI (t + KA) → J2 5 = nI (t + KA) → J1 6 = nI va → J2 6 = nI vb → J1 9 = nI (m + 1) → J2 9 = nI (m + 1) → J1 100 = nI i → J2 100 = nI i → T2 (fun k => x_takeFrom k 8 J1 μ1) (fun k => x_takeFrom k 8 J2 μ2) (fun r1 r2 => OuE T FN S w σ1 σ2 r1.2 r2.2) := by
      intro i J1 J2 hip j1 i1 j2 i2 j3 i3 j4 i4 j5 i5 j6 i6 j9 i9 j100 i100
      refine T2_suc (fun k => by rw [x_takeFrom]) (fun k => by rw [x_takeFrom]) ?_
      by_cases k5' : 5 ≤ kx
      · refine T2_ob (T2_t (s_memY (σ := μ1) (v := va) (n := p) (kk := kx) (j := i) o13 (by rw [c28]; exact o9) k5' o5.2 hip (by exact j6) (by exact j100)) (s_memY (σ := μ2) (v := vb) (n := p) (kk := kx) (j := i) o14 (by rw [d28]; exact o10) k5' o5.2 hip (by exact i6) (by exact i100))) (fun q1 q2 hq => ?_)
        rw [hq.1, hq.2, j9, i9, j100, i100]
        refine T2_chk (n_in (by omega) (by omega)) (n_in (by omega) (by omega)) ?_
        rw [n_cl (p := m + 1) (by omega)]
        have hD := EIx_dn (u := m + 1) (by omega) hXq
        obtain ⟨xa, xb, q1', q2', _, _, _, q6, q7, q8, _⟩ := Rt_val (k := i) hD (Or.inl ⟨rfl, (by omega : m < m + 1)⟩) (by unfold VwR; omega) pq1 pq2 bva bvb (by show 5 ≤ kdN (μ1.2.2 28) va; rw [c28, o7]; exact k5') (by show μ1.2.2 28 (va + 1) = _; rw [c28]; exact o11) o6 hip
        have q1' : μ1.2.2 28 (va + 4 + i) = nI xa := q1'
        have q2' : μ2.2.2 28 (vb + 4 + i) = nI xb := q2'
        have hN := EIx_pr hD q6 ⟨xa, rfl, q7⟩ ⟨xb, rfl, q8⟩
        rw [mAr_pu p59, mAr_pu q59] at hN
        rw [q1', q2']
        have e1 : (mAr μ1 29 (m + 1) (nI xa)).2.2 28 = ξ1.2.2 28 := (mAr_o (by decide)).trans c28
        refine nine w2 (XC + 20) m i p va vb (mAr μ1 29 (m + 1) (nI xa)) (mAr μ2 29 (m + 1) (nI xb)) g1 l1 D1 h1 X1 g2 l2 D2 h2 X2 _ _ (by omega) hw2 hm1 hm2 hm3 (FE_tr F1 FE_pile) (FE_tr F2 FE_pile) hN (by omega) (by omega) bva bvb ?_ ?_ ?_ ?_ o6 hip j1 i1 j2 i2 j3 i3 j4 i4 j5 i5 j6 i6 j9 i9 rfl rfl
        · rw [mAr_s, upd_other (by omega)]; exact pq1
        · rw [mAr_s, upd_other (by omega)]; exact pq2
        · rw [e1, o7]; omega
        · rw [e1]; exact o11
      · have k4e : kx = 4 := by omega
        subst k4e
        obtain ⟨ee1, ee2⟩ := EI_e ⟨g1, l1, D1, h1, X1, g2, l2, D2, h2, X2, hXq⟩
        have P1 : VP g1 l1 D1 h1 (m + 2) μ1 := ⟨hXq.1.1, p59, by omega, ⟨0, ee1, by decide⟩⟩
        have P2 : VP g2 l2 D2 h2 (m + 2) μ2 := ⟨hXq.2.1.1, q59, by omega, ⟨0, ee2, by decide⟩⟩
        have hO2 : OE g1 g2 (μ1.2.2 28) (μ2.2.2 28) va vb 4 p := by rw [c28, d28]; exact hO
        refine T2_ob (T2_of (Tm_and (s_memberAt (v := va) (n := p) (i := i) P1 gv1 (by rw [c28, o7]; exact hk4) (by rw [c28]; exact o11) hip o6 (by exact j6) (by exact j100)) (s_memX (v := va) (n := p) (j := i) hXq.1.1 (by omega) ee1 o13 (by rw [c28]; exact o9) hip (by exact j6) (by exact j100))) (Tm_and (s_memberAt (v := vb) (n := p) (i := i) P2 gv2 (by rw [d28, o8]; exact hk4) (by rw [d28]; exact o12) hip o6 (by exact i6) (by exact i100)) (s_memX (v := vb) (n := p) (j := i) hXq.2.1.1 (by omega) ee2 o14 (by rw [d28]; exact o10) hip (by exact i6) (by exact i100))) (fun n' => Pm_wl (fun k => wl_memberAt k _ _ _) (fun k => wl_memberAt k _ _ _) (k_memberAt hXq.1.1 hXq.2.1.1 ee1 ee2 (by omega) (by omega) hO2 (by omega) hip (by exact j6) (by exact j100) (by exact i6) (by exact i100)))) (fun u1 u2 hu => ?_)
        obtain ⟨⟨kq, wl1, wl2⟩, ⟨ya, xa1, xa2, xa3, xa4⟩, ⟨yb, xc1, xc2, xc3, xc4⟩⟩ := hu
        obtain ⟨gC, lC, hC', gD, lD, hD', p1', p2', p3', p4', p5'', p6', p7', p8', p9', p10'⟩ := KQ_gr (by omega) hXq.1.1 hXq.2.1.1 ya yb kq xa2
        obtain ⟨q1', q2', q3'⟩ := RA_gr hXq.1 hXq.2.1 hXq.2.2.1 p1' p2' p3' p4' (p5''.trans p6'.symm) (by rw [wl1, wl2]; exact hXq.2.2.1.2.2.2)
        have eo1 := (MI_gr hXq.1 p1' p3').2
        have eo2 := (MI_gr hXq.2.1 p2' p4').2
        have H1 : FE μ1 u1.2 := FE_eo hXq.1.2.1 eo1
        have H2 : FE μ2 u2.2 := FE_eo hXq.2.1.2.1 eo2
        obtain ⟨_, _, _, i1', i2', _, _, _, w57, hw', x1', x2', ⟨ty1', ty2'⟩, c95', b95', b95''⟩ := id hXq
        have hX3 : EIx (m + 2) w2 (XC + 20) u1.2 u2.2 gC lC D1 hC' X1 gD lD D2 hD' X2 := ⟨q1', q2', q3', IT_eo hXq.1.2.1 hXq.1.1 (Or.inr ⟨D1, hC', p1'.1⟩) eo1 i1', IT_eo hXq.2.1.2.1 hXq.2.1.1 (Or.inr ⟨D2, hD', p2'.1⟩) eo2 i2', p5'', xa2, xc2, (p3'.1 57 (by decide)).trans w57, ⟨hw'.1, by omega, by omega⟩, x1', x2', ⟨by rw [H1.2.2.1]; exact ty1', by rw [H1.2.2.1, H2.2.2.1]; exact ty2'⟩, c95', (p3'.1 95 (by decide)).trans b95', b95''⟩
        have bh1 := HS_b hXq.1.1
        have bh2 := HS_b hXq.2.1.1
        rw [xa1, xc1] at p8'
        obtain ⟨_, _, _, wb1, wb2, _⟩ := ob_at hXq.1.1 gv1
        obtain ⟨_, _, _, wc1, wc2, _⟩ := ob_at hXq.2.1.1 gv2
        have gm1 : gC h1 := by
          obtain ⟨z1, z2, c1, c2, c3, c4, c5, c6, c7⟩ := p8'
          have ea : h1 = z1 := (n_eq (by omega) (by omega)).mp c1
          rw [ea]
          exact c2.resolve_left (by omega)
        have gm2 : gD h2 := by
          obtain ⟨z1, z2, c1, c2, c3, c4, c5, c6, c7⟩ := p8'
          have ea : h2 = z2 := (n_eq (by omega) (by omega)).mp c3
          rw [ea]
          exact c4.resolve_left (by omega)
        have hDn := EIx_dn (u := m + 1) (by omega) hX3
        have sz1 : szN (u1.2.2.2 28) h1 = 2 := sz_ch hX3.1.1 gm1 xa3 xa4
        have sz2 : szN (u2.2.2.2 28) h2 = 2 := sz_ch hX3.2.1.1 gm2 xc3 xc4
        have mp1 := MI_pu hDn.1 (Or.inr gm1)
        have mp2 := MI_pu hDn.2.1 (Or.inr gm2)
        have hN := EIx_pu hDn p8' mp1 mp2 (by show X1 + 6 * szN (u1.2.2.2 28) h1 ≤ _; rw [sz1]; omega) (by show X2 + 6 * szN (u2.2.2.2 28) h2 ≤ _; rw [sz2]; omega)
        rw [mAr_pu p5'', mAr_pu p6'] at hN
        rw [xa1, xc1, j9, i9, j100, i100]
        refine T2_chk (n_in (by omega) (by omega)) (n_in (by omega) (by omega)) ?_
        rw [n_cl (p := m + 1) (by omega)]
        have old1 : ∀ j, D1 + 4 ≤ j → j < h1 → u1.2.2.2 28 j = μ1.2.2 28 j := p1'.2.2.2
        have e1 : (mAr u1.2 29 (m + 1) (nI h1)).2.2 28 = u1.2.2.2 28 := mAr_o (by decide)
        have kdv : kdN (u1.2.2.2 28) va = 4 := by
          have eo := eo1.1 29 m (Or.inl ⟨rfl, by omega⟩)
          obtain ⟨z1, z2, c1, c2, c3, c4, c5, c6, c7⟩ := eo
          have ea : z1 = va := (n_eq (by omega) (by omega)).mp (c1.symm.trans pq1)
          have eb : z2 = va := (n_eq (by omega) (by omega)).mp (c3.symm.trans ((p3'.2.2 m (by omega)).trans pq1))
          rw [ea, eb] at c5
          rw [(EVb_sz c5).2.2, c28]; exact o7
        refine nine w2 (XC + 20) m i p va vb (mAr u1.2 29 (m + 1) (nI h1)) (mAr u2.2 29 (m + 1) (nI h2)) gC lC D1 hC' _ gD lD D2 hD' _ _ _ (by omega) hw2 hm1 hm2 hm3 (FE_tr F1 (FE_tr H1 FE_pile)) (FE_tr F2 (FE_tr H2 FE_pile)) hN (by omega) (by omega) bva bvb ?_ ?_ ?_ ?_ o6 hip j1 i1 j2 i2 j3 i3 j4 i4 j5 i5 j6 i6 j9 i9 rfl rfl
        · rw [mAr_s, upd_other (by omega), p3'.2.2 m (by omega)]; exact pq1
        · rw [mAr_s, upd_other (by omega), p4'.2.2 m (by omega)]; exact pq2
        · rw [e1, kdv]; omega
        · rw [e1, old1 (va + 1) (by omega) (by omega), c28]; exact o11
    refine T2_ite Iff.rfl (fun _ _ => ?_) (fun z _ => ?_)
    · exact ten w2 (XC + 20) (m + 1) (m + 2) μ1 μ2 _ _ (by omega) hw2 (by omega) (by omega) (by omega) (by omega) (FS_fe F1) (FS_fe F2) bU1 bU2 ⟨g1, l1, D1, h1, X1, g2, l2, D2, h2, X2, hXq⟩ k1 l1' k2 l2' k4 l4 rfl rfl
    · have pp : 1 ≤ p := by
        have : ¬ p = 0 := fun e => z (by rw [e]; decide)
        omega
      refine T2_chk (n_in (by omega) (by omega)) (n_in (by omega) (by omega)) ?_
      rw [n_cl (p := n) (by omega), s7, s7']
      refine T2_ite Iff.rfl (fun _ _ => ?_) (fun _ _ => ?_)
      · have e1 : nI p - 1 = nI (p - 1) := n_sub (p := p) (q := 1) (by omega) (by omega)
        rw [e1]
        exact eight (p - 1) _ _ (by omega) k1 l1' k2 l2' k3 l3 k4 l4 k5 l5 k6 l6 rfl rfl rfl rfl
      · refine T2_suc (fun k => by rw [x_takeFrom]) (fun k => by rw [x_takeFrom]) ?_
        exact eight 0 _ _ (by omega) k1 l1' k2 l2' k3 l3 k4 l4 k5 l5 k6 l6 rfl rfl rfl rfl
  -- the targets' keys, what is read
  have one : ∀ (w3 : Nat) (ρ1 ρ2 : MS) (J1 J2 : Nat → Int32), w' ≤ w3 → FE τ1 ρ1 → FE τ2 ρ2 → EI (t + KA + KB) w3 XC ρ1 ρ2 → J1 1 = nI n → J2 1 = nI n → J1 2 = nI (cha ka) → J2 2 = nI (cha ka) → J1 3 = nI (chb kb) → J2 3 = nI (chb kb) → J1 4 = nI t → J2 4 = nI t → J1 5 = nI (t + KA) → J2 5 = nI (t + KA) → T2 (fun k => x_takeFrom k 1 J1 ρ1) (fun k => x_takeFrom k 1 J2 ρ2) (fun r1 r2 => OuE T FN S w σ1 σ2 r1.2 r2.2) := by
    intro w3 ρ1 ρ2 J1 J2 hw3 F1 F2 hK j1 i1 j2 i2 j3 i3 j4 i4 j5 i5
    obtain ⟨x1, x2⟩ := EI_e hK
    refine T2_suc (fun k => by rw [x_takeFrom]) (fun k => by rw [x_takeFrom]) ?_
    rw [x1, x2]
    refine T2_ite Iff.rfl (fun _ _ => ?_) (fun z _ => absurd rfl z)
    refine T2_ob (E_readParts (u := t + KA) (fl := 1) (by omega) hTb (by omega) (by omega) (Sc0_fe hSc.1 F1) hK (by exact j3) (by exact i3) (by exact j5) (by exact i5) rfl rfl) (fun v1 v2 hv => ?_)
    obtain ⟨h1, h2, hv⟩ := hv
    rw [if_neg (by decide : ¬ (1 : Int32) = 0)] at hv
    have G1 := FE_tr F1 h1
    have G2 := FE_tr F2 h2
    rcases hv with ⟨w4, hw4, hU⟩ | ⟨z1, z2⟩
    case inr => exact twoZ _ _ _ _ G1 G2 (EZ_mo z1 (by omega) (Nat.le_refl _)) (EZ_mo z2 (by omega) (Nat.le_refl _))
    rw [show t + KA + KB + 1 + kb = (t + KA + KB + kb) + 1 by omega] at hU
    obtain ⟨m, hm⟩ : ∃ m, m = t + KA + KB + kb := ⟨_, rfl⟩
    rw [← hm] at hU
    obtain ⟨y1, y2⟩ := EI_e hU
    refine T2_suc (fun k => by rw [x_takeFrom]) (fun k => by rw [x_takeFrom]) ?_
    rw [y1, y2]
    refine T2_ite Iff.rfl (fun _ _ => ?_) (fun z _ => absurd (by decide) z)
    refine T2_suc (fun k => by rw [x_takeFrom]) (fun k => by rw [x_takeFrom]) ?_
    refine T2_ob (E_sw (by omega) (by omega) hU) (fun a b hab => ?_)
    obtain ⟨f1, f2, g1, l1, D1, hh1, X1, g2, l2, D2, hh2, X2, hX, rm1, rm2⟩ := hab
    have H1 := FE_tr G1 f1
    have H2 := FE_tr G2 f2
    have t1 : a.2.1 59 = nI (m + 1) := hX.2.2.2.2.2.1
    have t2 : b.2.1 59 = nI (m + 1) := (hX.2.2.1.2.2.1 59 (by unfold AlS; omega)).symm.trans t1
    obtain ⟨va, vb, a1, a2, a3, a4, a5, a6, a7⟩ := hX.2.2.1.1 29 m (Or.inl ⟨rfl, by omega⟩) (by unfold VwR; omega)
    have k6 := kdN_6 hX.1.1 a2
    have hXe : EI (m + 1) w4 XC a.2 b.2 := ⟨g1, l1, D1, hh1, X1, g2, l2, D2, hh2, X2, hX⟩
    rw [t1, t2, n_sub1 (by omega)]
    refine T2_chk (n_in (by omega) (by omega)) (n_in (by omega) (by omega)) ?_
    rw [n_cl (p := m) (by omega), a1, a3]
    refine T2_ob (T2_t (s_kind hX.1.1 a2 rfl) (s_kind hX.2.1.1 a4 rfl)) (fun c d hcd => ?_)
    rw [hcd.1, hcd.2, (EVb_sz a5).2.2, j1, i1]
    refine T2_chk (n_in (by omega) (by omega)) (n_in (by omega) (by omega)) ?_
    rw [n_cl (p := n) (by omega)]
    show T2 (fun k => if a.2.2.2 7 n = 25 then _ else _) (fun k => if b.2.2.2 7 n = 25 then _ else _) _
    rw [(STb_fe B1.1 H1).1 7 _ (by omega) (by omega) (by omega), (STb_fe B2.1 H2).1 7 _ (by omega) (by omega) (by omega)]
    -- the fault, the good kinds
    have five : ∀ (M1 M2 : Nat → Int32), T2 (fun k => x_takeFrom k 5 M1 a.2) (fun k => x_takeFrom k 5 M2 b.2) (fun r1 r2 => OuE T FN S w σ1 σ2 r1.2 r2.2) := by
      intro M1 M2
      refine T2_suc (fun k => by rw [x_takeFrom]) (fun k => by rw [x_takeFrom]) ?_
      refine T2_ob (T2_t (s_fail _ _) (s_fail _ _)) (fun y z hy => ?_)
      rw [hy.1, hy.2]
      obtain ⟨z1, z2⟩ := E_er (a := t) (b := 179300) (e := 1) (by omega) hXe (by omega) (by decide) (by omega) (by omega)
      exact T2_some (fz 179300 _ _ (FS_tr (FS_fe H1) (FS_fe FE_er)) (FS_tr (FS_fe H2) (FS_fe FE_er)) (UT_fe FE_er (UT_fe H1 U1)) (UT_fe FE_er (UT_fe H2 U2)) (by omega) z1 z2)
    have good : ∀ (M1 M2 : Nat → Int32), 4 ≤ kdN (a.2.2.2 28) va → (∀ i, i ≠ 6 → i ≠ 7 → M1 i = J1 i) → (∀ i, i ≠ 6 → i ≠ 7 → M2 i = J2 i) → M1 6 = nI va → M2 6 = nI vb → T2 (fun k => x_takeFrom k 6 M1 a.2) (fun k => x_takeFrom k 6 M2 b.2) (fun r1 r2 => OuE T FN S w σ1 σ2 r1.2 r2.2) := by
      intro M1 M2 hk o1 o2 m6 n6
      have ga := kdN_ge hX.1.1 a2 (by omega)
      obtain ⟨kx, p, hO⟩ := OE_of hX.1.1 hX.2.1.1 ga a4 a5
      exact six w4 m va vb kx p a.2 b.2 g1 l1 D1 hh1 X1 g2 l2 D2 hh2 X2 M1 M2 (by omega) (by omega) (by omega) (by omega) H1 H2 hX rm1 rm2 a1 a3 a6 a7 (by rw [← hO.2.2.2.2.2.2.1]; exact hk) hO ((o1 1 (by decide) (by decide)).trans j1) ((o2 1 (by decide) (by decide)).trans i1) ((o1 2 (by decide) (by decide)).trans j2) ((o2 2 (by decide) (by decide)).trans i2) ((o1 3 (by decide) (by decide)).trans j3) ((o2 3 (by decide) (by decide)).trans i3) ((o1 4 (by decide) (by decide)).trans j4) ((o2 4 (by decide) (by decide)).trans i4) ((o1 5 (by decide) (by decide)).trans j5) ((o2 5 (by decide) (by decide)).trans i5) m6 n6
    have oo : ∀ (J : Nat → Int32) (x y : Int32) i, i ≠ 6 → i ≠ 7 → upd (upd J 6 x) 7 y i = J i := fun J x y i h6 h7 => by rw [upd_other h7, upd_other h6]
    refine T2_ite Iff.rfl (fun _ _ => ?_) (fun _ _ => ?_)
    · refine T2_ite Iff.rfl (fun z _ => ?_) (fun _ _ => five _ _)
      have z6 : kdN (a.2.2.2 28) va = 6 := (n_eq (q := 6) (by omega) (by decide)).mp z
      exact good _ _ (by omega) (oo _ _ _) (oo _ _ _) rfl rfl
    · refine T2_suc (fun k => by rw [x_takeFrom]) (fun k => by rw [x_takeFrom]) ?_
      show T2 (fun k => if nI (kdN (a.2.2.2 28) va) = 4 then _ else _) (fun k => if nI (kdN (a.2.2.2 28) va) = 4 then _ else _) _
      refine T2_ite Iff.rfl (fun z _ => ?_) (fun _ _ => ?_)
      · have z4 : kdN (a.2.2.2 28) va = 4 := (n_eq (q := 4) (by omega) (by decide)).mp z
        exact good _ _ (by omega) (oo _ _ _) (oo _ _ _) rfl rfl
      · show T2 (fun k => if nI (kdN (a.2.2.2 28) va) = 5 then _ else _) (fun k => if nI (kdN (a.2.2.2 28) va) = 5 then _ else _) _
        refine T2_ite Iff.rfl (fun z _ => ?_) (fun _ _ => five _ _)
        have z5 : kdN (a.2.2.2 28) va = 5 := (n_eq (q := 5) (by omega) (by decide)).mp z
        exact good _ _ (by omega) (oo _ _ _) (oo _ _ _) rfl rfl
  refine T2_suc (fun k => by rw [x_takeFrom]) (fun k => by rw [x_takeFrom]) ?_
  rw [d1, d2]
  refine T2_chk (n_in (by omega) (by omega)) (n_in (by omega) (by omega)) ?_
  refine T2_chk (n_in (by omega) (by omega)) (n_in (by omega) (by omega)) ?_
  rw [n_cl (p := n) (by omega), B1.1.1 5 _ (by omega) (by omega) (by omega), B2.1.1 5 _ (by omega) (by omega) (by omega), B1.1.1 6 _ (by omega) (by omega) (by omega), B2.1.1 6 _ (by omega) (by omega) (by omega), x5, x6, s1, s2]
  refine T2_ob (E_workParts (by omega) hTa (by omega) hSc.1 hE rfl rfl) (fun r1 r2 hr => ?_)
  obtain ⟨f1, f2, hr⟩ := hr
  rw [eKA] at hr
  rcases hr with ⟨w2, hw2, hJ⟩ | ⟨z1, z2⟩
  case inr =>
    refine T2_ite ⟨fun z => absurd z (EZ_e z1), fun z => absurd z (EZ_e z2)⟩ (fun z _ => absurd z (EZ_e z1)) (fun _ _ => ?_)
    exact oneZ _ _ _ _ f1 f2 z1 z2
  obtain ⟨e1, e2⟩ := EI_e hJ
  obtain ⟨p1, p2⟩ := EI_59 hJ
  rw [e1, e2, p1, p2]
  refine T2_ite Iff.rfl (fun _ _ => ?_) (fun z _ => absurd rfl z)
  refine T2_ob (E_workParts (by omega) hTb (by omega) (Sc0_fe hSc.1 f1) hJ rfl rfl) (fun q1 q2 hq => ?_)
  obtain ⟨j1, j2, hq⟩ := hq
  rw [eKB] at hq
  have F1 := FE_tr f1 j1
  have F2 := FE_tr f2 j2
  rcases hq with ⟨w3, hw3, hK⟩ | ⟨z1, z2⟩
  · exact one w3 _ _ _ _ (by omega) F1 F2 hK d1 d2 rfl rfl rfl rfl rfl rfl rfl rfl
  · exact oneZ _ _ _ _ F1 F2 (EZ_mo z1 (by omega) (Nat.le_refl _)) (EZ_mo z2 (by omega) (Nat.le_refl _))
end TKF
end JnS264
section JnS265
/-! What lives at a statement's begin (reference). -/
section LVR
variable {H : Nat → Int32} {g : Nat → Prop} {l : List Nat} {a b : Nat}
/-- a row of roots -/
theorem LVc_row (hO : HO H g l a b) (hb : b ≤ 1740000) {val c : Nat → Nat} {P : Nat → Prop} : ∀ (n : Nat) {S : Nat → Prop} {X : Nat}, (∀ i, i < n → P i → (val i < 3 ∨ g (val i)) ∧ (3 ≤ val i → szN H (val i) ≤ c i)) → LVc X H S → LVc (X + 6 * suN c n) H (fun v => S v ∨ ∃ i, i < n ∧ P i ∧ v = val i ∧ 3 ≤ v) := by
  intro n
  induction n with
  | zero =>
    intro S X h hL
    refine LVc_le (LVc_mo (fun v z => ?_) hL) (by omega)
    rcases z with z | ⟨i, hi, _⟩
    · exact Rch_b z
    · omega
  | succ n ih =>
    intro S X h hL
    have hI := ih (fun i hi => h i (by omega)) hL
    have es : suN c (n + 1) = suN c n + c n := rfl
    by_cases z : P n ∧ 3 ≤ val n
    · obtain ⟨h1, h2⟩ := h n (by omega) z.1
      have h2 := h2 z.2
      refine LVc_le (LVc_mo (fun v y => Rch_b ?_) (LVc_add hO hb h1 hI)) (by omega)
      rcases y with y | ⟨i, hi, p1, p2, p3⟩
      · exact Or.inl (Or.inl y)
      · by_cases e : i = n
        · subst e; exact Or.inr ⟨p2, z.2⟩
        · exact Or.inl (Or.inr ⟨i, by omega, p1, p2, p3⟩)
    · refine LVc_le (LVc_mo (fun v y => Rch_b ?_) hI) (by omega)
      rcases y with y | ⟨i, hi, p1, p2, p3⟩
      · exact Or.inl y
      · by_cases e : i = n
        · subst e; exact absurd ⟨p1, by omega⟩ z
        · exact Or.inr ⟨i, by omega, p1, p2, p3⟩
theorem LVc_rw (hO : HO H g l a b) (hb : b ≤ 1740000) {val c : Nat → Nat} {P : Nat → Prop} {n Y X : Nat} {S : Nat → Prop} (hY : suN c n = Y) (h : ∀ i, i < n → P i → (val i < 3 ∨ g (val i)) ∧ (3 ≤ val i → szN H (val i) ≤ c i)) (hL : LVc X H S) : LVc (X + 6 * Y) H (fun v => S v ∨ ∃ i, i < n ∧ P i ∧ v = val i ∧ 3 ≤ v) := by
  rw [← hY]; exact LVc_row hO hb n h hL
theorem suN_k {k : Nat} : ∀ (n : Nat), suN (fun _ => k) n = k * n
  | 0 => rfl
  | n + 1 => by
    show suN (fun _ => k) n + k = k * (n + 1)
    rw [suN_k n, Nat.mul_succ]
end LVR
section LVA
variable {g : Nat → Prop} {l : List Nat} {B h : Nat} {σ : MS}
/-- what lives, with nothing upon the pile and no iterators -/
theorem lv_all (hS : HS g l B h σ) (hQ : RtQ σ) (hV : ∀ a i, RtP 0 σ a i → Vd g (σ.2.2 a i)) (hU : UT σ) (h72 : σ.1 72 = 0) : LVc 400000 (σ.2.2 28) (RoS 0 σ) := by
  have hb := HS_b hS
  have hO := hS.2.2.2.2
  obtain ⟨P, e, q1, q2, q3, q4, ⟨c, n, b1, b2, b3, b4⟩, q6⟩ := hQ
  obtain ⟨h64, P', h63, hP', h65, h32, hl, o1, o2, o3, o4, o5⟩ := hU
  have eP : P' = P := (n_eq (by omega) (by omega)).mp (h63.symm.trans q1)
  subst eP
  have vv : ∀ a i, RtP 0 σ a i → ((σ.2.2 a i).toNatClampNeg < 3 ∨ g (σ.2.2 a i).toNatClampNeg) ∧ (σ.2.2 a i).toNatClampNeg < 1740000 ∧ σ.2.2 a i = nI (σ.2.2 a i).toNatClampNeg := fun a i z => by
    obtain ⟨m, m1, m2⟩ := hV a i z
    have bm := HS_vb hS m2
    rw [m1, n_cl (p := m) (by omega)]
    exact ⟨m2, bm, rfl⟩
  have sz1 : ∀ a i, RtP 0 σ a i → szN (σ.2.2 28) (σ.2.2 a i).toNatClampNeg ≤ 1000 := fun a i z => (szN_b hS (vv a i z).1).2.1
  have L0 : LVc 0 (σ.2.2 28) (fun _ => False) := fun N => by
    rw [lvN_no (fun v (z : Rch (σ.2.2 28) (fun _ => False) v) => z (fun _ => False) (fun _ y => y) (fun _ _ _ _ y _ _ _ _ _ _ _ => y))]
    exact Nat.le_refl _
  -- the state
  obtain ⟨N, hN⟩ : ∃ N, N = 11514 := ⟨_, rfl⟩
  have yS : suN (szP (σ.2.2 28) (kC σ) (σ.2.2 30) 0) N = StS σ := by rw [hN]; unfold StS SzS; rfl
  have yP : ∀ q, suN (szP (σ.2.2 28) (kC σ) (σ.2.2 31) (11514 * q)) N = PtS σ q := fun q => by rw [hN]; unfold PtS SzS; rfl
  have L1 := LVc_rw hO hb.2 (val := fun i => (σ.2.2 30 i).toNatClampNeg) (c := szP (σ.2.2 28) (kC σ) (σ.2.2 30) 0) (P := fun i => StI (σ.2.2 30) 0 i) yS (fun i hi st => by
    have r : RtP 0 σ 30 i := Or.inr (Or.inl ⟨rfl, st⟩)
    refine ⟨(vv 30 i r).1, fun h3 => ?_⟩
    by_cases z : NUa (kC σ) (σ.2.2 30) 0 i
    · exfalso
      have := o1 i st z
      rw [this] at h3
      exact absurd h3 (by decide)
    · have ct : CtA (kC σ) (σ.2.2 30) 0 i := ⟨by rw [Nat.zero_add]; exact st, z⟩
      unfold szP
      rw [if_pos ct, Nat.zero_add]; exact Nat.le_refl _) L0
  -- the points
  have L2 : ∀ q, q ≤ P' → LVc (0 + 6 * StS σ + 6 * suN (PtS σ) q) (σ.2.2 28) (fun v => (False ∨ ∃ i, i < N ∧ StI (σ.2.2 30) 0 i ∧ v = (σ.2.2 30 i).toNatClampNeg ∧ 3 ≤ v) ∨ ∃ p, p < q ∧ ∃ i, i < N ∧ StI (σ.2.2 31) (11514 * p) (11514 * p + i) ∧ v = (σ.2.2 31 (11514 * p + i)).toNatClampNeg ∧ 3 ≤ v) := by
    intro q
    induction q with
    | zero =>
      intro _
      refine LVc_le (LVc_mo (fun v z => ?_) L1) (Nat.le_add_right _ _)
      rcases z with z | ⟨p, hp, _⟩
      · exact Rch_b z
      · omega
    | succ q ih =>
      intro hq
      have hI := ih (by omega)
      have L := LVc_rw hO hb.2 (val := fun i => (σ.2.2 31 (11514 * q + i)).toNatClampNeg) (c := szP (σ.2.2 28) (kC σ) (σ.2.2 31) (11514 * q)) (P := fun i => StI (σ.2.2 31) (11514 * q) (11514 * q + i)) (yP q) (fun i hi st => by
        have r : RtP 0 σ 31 (11514 * q + i) := Or.inr (Or.inr (Or.inl ⟨rfl, q, by rw [h63, n_cl (p := P') (by omega)]; omega, st⟩))
        refine ⟨(vv 31 _ r).1, fun h3 => ?_⟩
        by_cases z : NUa (kC σ) (σ.2.2 31) (11514 * q) i
        · exfalso
          have := o2 q (by omega) i st z
          rw [this] at h3
          exact absurd h3 (by decide)
        · have ct : CtA (kC σ) (σ.2.2 31) (11514 * q) i := ⟨st, z⟩
          unfold szP
          rw [if_pos ct]; exact Nat.le_refl _) hI
      have es : suN (PtS σ) (q + 1) = suN (PtS σ) q + PtS σ q := rfl
      refine LVc_le (LVc_mo (fun v z => Rch_b ?_) L) (by rw [es]; omega)
      rcases z with z | ⟨p, hp, i, hi, z⟩
      · exact Or.inl (Or.inl z)
      · by_cases e : p = q
        · subst e; exact Or.inr ⟨i, hi, z⟩
        · exact Or.inl (Or.inr ⟨p, by omega, i, hi, z⟩)
  -- the views
  have vw : ∀ (x k : Nat) {S : Nat → Prop} {X : Nat}, (∀ i, i < k → RtP 0 σ x i) → LVc X (σ.2.2 28) S → LVc (X + 6 * (1000 * k)) (σ.2.2 28) (fun v => S v ∨ ∃ i, i < k ∧ True ∧ v = (σ.2.2 x i).toNatClampNeg ∧ 3 ≤ v) := fun x k S X hr hL => by
    have := LVc_row hO hb.2 (val := fun i => (σ.2.2 x i).toNatClampNeg) (c := fun _ => 1000) (P := fun _ => True) k (fun i hi _ => ⟨(vv x i (hr i hi)).1, fun _ => sz1 x i (hr i hi)⟩) hL
    rw [suN_k] at this; exact this
  have L3 := vw 40 2 (fun i hi => by unfold RtP; omega) (vw 38 8 (fun i hi => by unfold RtP; omega) (vw 37 8 (fun i hi => by unfold RtP; omega) (vw 36 8 (fun i hi => by unfold RtP; omega) (L2 P' (Nat.le_refl _)))))
  refine LVc_le (LVc_mo (fun v z => Rch_b ?_) L3) (by omega)
  obtain ⟨z1, z2, a, i, r, ev⟩ := z
  have e : v = (σ.2.2 a i).toNatClampNeg := by rw [ev, n_cl (p := v) (by omega)]
  have r0 := r
  unfold RtP at r
  rcases r with r | ⟨r, st⟩ | ⟨r, p, hp, st⟩ | ⟨r, hi⟩ | r | ⟨r, hi⟩ | ⟨r, hi⟩ | ⟨r, hi⟩ | ⟨r, hi⟩
  · omega
  · subst r
    refine Or.inl (Or.inl (Or.inl (Or.inl (Or.inl (Or.inr ⟨i, ?_, st, e, z1⟩)))))
    unfold StI at st
    rw [b1, b3, n_cl (p := c) (by omega), n_cl (p := n) (by omega)] at st
    omega
  · subst r
    rw [h63, n_cl (p := P') (by omega)] at hp
    have st0 := st
    obtain ⟨c', n', d1, d2, d3, d4⟩ := q6 p hp
    unfold StI at st
    rw [d1, d3, n_cl (p := c') (by omega), n_cl (p := n') (by omega)] at st
    obtain ⟨j, hj, ej⟩ : ∃ j, j < N ∧ i = 11514 * p + j := ⟨i - 11514 * p, by omega, by omega⟩
    rw [ej] at st0 e
    exact Or.inl (Or.inl (Or.inl (Or.inl (Or.inr ⟨p, hp, j, hj, st0, e, z1⟩))))
  · subst r
    rw [o3 i hi] at e
    exact absurd e (by intro e; rw [e] at z1; exact absurd z1 (by decide))
  · rw [h72, show (0 : Int32).toNatClampNeg = 0 from by decide] at r
    omega
  · subst r
    exact Or.inl (Or.inl (Or.inl (Or.inr ⟨i, hi, trivial, e, z1⟩)))
  · subst r
    exact Or.inl (Or.inl (Or.inr ⟨i, hi, trivial, e, z1⟩))
  · subst r
    exact Or.inl (Or.inr ⟨i, hi, trivial, e, z1⟩)
  · subst r
    exact Or.inr ⟨i, hi, trivial, e, z1⟩
end LVA
end JnS265
section JnS266
/-! A statement is begun on both sides (reference): up to its kind. -/
/-- the state as a statement begins -/
def zB (σ : MS) (x y : Int32) : MS := mSc (mSc (mSc (mSc (mSc (mSc (mSc (mSc (mSc σ 103 x) 104 y) 57 0) 59 0) 72 0) 56 0) 67 0) 97 0) 69 0
/-- tables -/
def Bz (T : Nat → Nat → Int32) (FN : Nat → Nat → Prop) (σ : MS) : Prop := STb T FN σ ∧ (∀ a i, 17 ≤ a → a ≤ 21 → (a ≠ 20 ∧ (a ≤ 18 → i < CNo T % 42) ∧ (a = 19 → i < 8 * (CNo T % 42) ∧ i % 8 < (T 18 (i / 8)).toNatClampNeg) ∧ (a = 21 → i ≤ CNo T % 42)) → σ.2.2 a i = T a i) ∧ ∀ i, kC σ i = T 20 i
/-- between statements: both sides alike -/
def IV0 (T : Nat → Nat → Int32) (FN : Nat → Nat → Prop) (S : Nat → Nat → Nat → Nat → Prop) (σ1 σ2 : MS) : Prop := (∃ (g1 : Nat → Prop) (l1 : List Nat) (B1 h1 X1 : Nat) (g2 : Nat → Prop) (l2 : List Nat) (B2 h2 X2 : Nat), MI 0 X1 g1 l1 B1 h1 σ1 ∧ MI 0 X2 g2 l2 B2 h2 σ2 ∧ RA 0 g1 g2 (zB σ1 0 0) (zB σ2 0 0)) ∧ σ1.1 103 = σ2.1 103 ∧ (TyT (σ1.2.2 2) ∧ σ1.2.2 2 = σ2.2.2 2) ∧ (∃ a, σ1.1 95 = nI a ∧ a ≤ 1000000) ∧ UT σ1 ∧ UT σ2 ∧ Bz T FN σ1 ∧ Bz T FN σ2 ∧ PtQ T S σ1 ∧ Ou6 σ1
section ZBS
variable {σ σ1 σ2 : MS} {x y : Int32} {t X B h : Nat} {g g1 g2 : Nat → Prop} {l : List Nat}
theorem zB_r : (zB σ x y).2.2 = σ.2.2 := rfl
theorem zB_s {j : Nat} (h : ¬ (j = 103 ∨ j = 104 ∨ j = 57 ∨ j = 59 ∨ j = 72 ∨ j = 56 ∨ j = 67 ∨ j = 97 ∨ j = 69)) : (zB σ x y).1 j = σ.1 j := by
  show upd (upd (upd (upd (upd (upd (upd (upd (upd σ.1 103 x) 104 y) 57 0) 59 0) 72 0) 56 0) 67 0) 97 0) 69 0 j = σ.1 j
  rw [upd_other (by omega), upd_other (by omega), upd_other (by omega), upd_other (by omega), upd_other (by omega), upd_other (by omega), upd_other (by omega), upd_other (by omega), upd_other (by omega)]
theorem zB_0 {j : Nat} (h : j = 57 ∨ j = 59 ∨ j = 72 ∨ j = 56 ∨ j = 67 ∨ j = 97 ∨ j = 69) : (zB σ x y).1 j = 0 := by
  rcases h with e | e | e | e | e | e | e <;> (rw [e]; rfl)
theorem RtQ_z (h : RtQ σ) : RtQ (zB σ x y) := by
  obtain ⟨P, e, q1, q2, q3, q4, q5, q6⟩ := h
  exact ⟨P, 0, (zB_s (by omega)).trans q1, q2, rfl, by omega, q5, q6⟩
theorem RtP_z {a i : Nat} (h : RtP 0 (zB σ x y) a i) : RtP 0 σ a i := by
  unfold RtP at h ⊢
  rw [zB_r, zB_s (j := 63) (by omega), zB_0 (j := 72) (by omega), show (0 : Int32).toNatClampNeg = 0 from by decide] at h
  rcases h with z | z | z | z | z | z
  · omega
  · exact Or.inr (Or.inl z)
  · exact Or.inr (Or.inr (Or.inl z))
  · exact Or.inr (Or.inr (Or.inr (Or.inl z)))
  · omega
  · exact Or.inr (Or.inr (Or.inr (Or.inr (Or.inr z))))
/-- what lives -/
theorem MI_z (hM : MI 0 X g l B h σ) (hU : UT σ) : MI 0 400000 g l B h (zB σ x y) := by
  obtain ⟨m1, m2, m3, m4⟩ := hM
  have h1 : HS g l B h (zB σ x y) := HS_c m1 (zB_s (by omega)) (zB_s (by omega)) rfl
  have h2 : RtQ (zB σ x y) := RtQ_z m2
  have h3 : ∀ a i, RtP 0 (zB σ x y) a i → Vd g ((zB σ x y).2.2 a i) := fun a i z => m3 a i (RtP_z z)
  exact ⟨h1, h2, h3, lv_all h1 h2 h3 (UT_c hU rfl (zB_s (by omega)) (zB_s (by omega)) (zB_s (by omega))) rfl⟩
theorem RA_z (hR : RA 0 g1 g2 (zB σ1 0 0) (zB σ2 0 0)) : RA 0 g1 g2 (zB σ1 x y) (zB σ2 x y) := by
  refine ⟨fun a i z hv => hR.1 a i ?_ hv, fun a i ha hz hn => hR.2.1 a i ha hz (fun yy => hn ((InA_c (σ := zB σ1 0 0) (ρ := zB σ1 x y) ((zB_s (by omega)).trans (zB_s (by omega)).symm) rfl ((zB_s (by omega)).trans (zB_s (by omega)).symm) ((zB_s (by omega)).trans (zB_s (by omega)).symm) ((zB_s (by omega)).trans (zB_s (by omega)).symm) ((zB_s (by omega)).trans (zB_s (by omega)).symm) (fun _ _ => rfl) (fun _ _ => rfl) (fun _ _ _ _ => rfl) a i).mpr yy)), fun j hj => ?_, hR.2.2.2⟩
  · unfold RtP at z ⊢
    rw [zB_s (j := 63) (by omega), zB_0 (j := 72) (by omega)] at z ⊢
    exact z
  · by_cases e1 : j = 103
    · rw [e1]; rfl
    by_cases e2 : j = 104
    · rw [e2]; rfl
    have := hR.2.2.1 j hj
    by_cases c : j = 57 ∨ j = 59 ∨ j = 72 ∨ j = 56 ∨ j = 67 ∨ j = 97 ∨ j = 69
    · rw [zB_0 c, zB_0 c]
    · rw [zB_s (by omega), zB_s (by omega)] at this
      rw [zB_s (by omega), zB_s (by omega)]; exact this
end ZBS
section SW4
variable {t X1 X2 B1 h1 B2 h2 : Nat} {g1 g2 : Nat → Prop} {l1 l2 : List Nat} {σ1 σ2 : MS}
/-- a sweep at a statement's begin -/
theorem E_sw4 (m1 : MI 0 400000 g1 l1 B1 h1 σ1) (m2 : MI 0 400000 g2 l2 B2 h2 σ2) (hR : RA 0 g1 g2 σ1 σ2) (t1 : σ1.1 59 = nI 0) (h72 : σ1.1 72 = nI 0) (k72 : σ2.1 72 = nI 0) (e1 : σ1.1 56 = 0) (e2 : σ2.1 56 = 0) (w1 : σ1.1 57 = nI 0) (ty : TyT (σ1.2.2 2) ∧ σ1.2.2 2 = σ2.2.2 2) (h95 : ∃ a, σ1.1 95 = nI a ∧ a ≤ 1000000) : T2 (fun k => x_sweep k 0 (upd (fun _ => 0) 1 400000) σ1) (fun k => x_sweep k 0 (upd (fun _ => 0) 1 400000) σ2) (fun r1 r2 => FE σ1 r1.2 ∧ FE σ2 r2.2 ∧ EI 0 0 400000 r1.2 r2.2) := by
  have t2 : σ2.1 59 = nI 0 := (hR.2.2.1 59 (by unfold AlS; omega)).symm.trans t1
  refine T2_mono (T2_of (MI_sw (T := 400000) m1 t1 (by omega) rfl (by decide)) (MI_sw (T := 400000) m2 t2 (by omega) rfl (by decide)) (fun n => Pm_wl (fun k => wl_sweep k _ _ _) (fun k => wl_sweep k _ _ _) (Pm_t2 (MI_sw (T := 400000) m1 t1 (by omega) rfl (by decide)) (fun k => f_sweep k _ _ _) (MI_sw (T := 400000) m2 t2 (by omega) rfl (by decide)) (fun k => f_sweep k _ _ _)))) (fun r1 r2 hr => ?_)
  obtain ⟨⟨⟨⟨gA, lA, BA, hA, a1, a2, a3, a4⟩, ⟨gB, lB, BB, hB, b1, b2, b3, b4⟩⟩, c1, c2⟩, _, _⟩ := hr
  have f1 := FE_eo m1.2.1 a2
  have f2 := FE_eo m2.2.1 b2
  have hR' : RA 0 gA gB r1.2 r2.2 := RA_step m1.2.1 m2.2.1 hR a2 b2 (by rw [a3 57 (by decide) (by decide), b3 57 (by decide) (by decide)]; exact hR.2.2.1 57 (by unfold AlS; omega)) (by rw [a3 59 (by decide) (by decide), b3 59 (by decide) (by decide)]; exact hR.2.2.1 59 (by unfold AlS; omega)) (by rw [c1, c2]; exact hR.2.2.2)
  obtain ⟨a, ha1, ha2⟩ := h95
  refine ⟨f1, f2, gA, lA, BA, hA, 400000, gB, lB, BB, hB, 400000, a1, b1, hR', ⟨0, (a3 72 (by decide) (by decide)).trans h72, by omega, fun i hi => absurd hi (Nat.not_lt_zero i)⟩, ⟨0, (b3 72 (by decide) (by decide)).trans k72, by omega, fun i hi => absurd hi (Nat.not_lt_zero i)⟩, (a3 59 (by decide) (by decide)).trans t1, (a3 56 (by decide) (by decide)).trans e1, (b3 56 (by decide) (by decide)).trans e2, (a3 57 (by decide) (by decide)).trans w1, ⟨by omega, by omega, by omega⟩, by omega, by omega, ⟨?_, ?_⟩, a, (a3 95 (by decide) (by decide)).trans ha1, ha2⟩
  · rw [f1.2.2.1]; exact ty.1
  · rw [f1.2.2.1, f2.2.2.1]; exact ty.2
end SW4
section BG1
variable {T : Nat → Nat → Int32} {FN : Nat → Nat → Prop} {S : Nat → Nat → Nat → Nat → Prop} {σ1 σ2 : MS}
/-- a statement is begun: behind the sweep -/
theorem E_begin9 (hW : SWf T FN S) (hI : IV0 T FN S σ1 σ2) {c un d v n : Nat} {F : List Nat} (hP : Pos T S c un d v n F σ1) {Q : Int32 × MS → Int32 × MS → Prop} {L1 L2 : Nat → Int32} (d1 : L1 1 = nI n) (d2 : L2 1 = nI n) (hQ : ∀ (x y : Int32) (r1 r2 : MS), x = σ1.1 103 + 1 → Mid T FN S 0 0 400000 (zB σ1 x y) (zB σ2 x y) r1 r2 → Pos T S c un d v n F r1 → FE (zB σ1 x y) r1 → FE (zB σ2 x y) r2 → T2 (fun k => if T 4 n = 40 then x_begin k 10 L1 r1 else if T 4 n = 41 then x_begin k 10 L1 r1 else if T 4 n = 42 then x_begin k 11 L1 r1 else if T 4 n = 43 then x_begin k 12 L1 r1 else if T 4 n = 44 then x_begin k 13 L1 r1 else if T 4 n = 45 then x_begin k 14 L1 r1 else if T 4 n = 46 then x_begin k 15 L1 r1 else if T 4 n = 47 then x_begin k 16 L1 r1 else if T 4 n = 48 then x_begin k 17 L1 r1 else if T 4 n = 49 then x_begin k 18 L1 r1 else if T 4 n = 50 then x_begin k 18 L1 r1 else if T 4 n = 51 then x_begin k 19 L1 r1 else if T 4 n = 52 then x_begin k 20 L1 r1 else if T 4 n = 53 then x_begin k 21 L1 r1 else if T 4 n = 54 then x_begin k 23 L1 r1 else if T 4 n = 55 then x_begin k 24 L1 r1 else x_begin k 25 L1 r1) (fun k => if T 4 n = 40 then x_begin k 10 L2 r2 else if T 4 n = 41 then x_begin k 10 L2 r2 else if T 4 n = 42 then x_begin k 11 L2 r2 else if T 4 n = 43 then x_begin k 12 L2 r2 else if T 4 n = 44 then x_begin k 13 L2 r2 else if T 4 n = 45 then x_begin k 14 L2 r2 else if T 4 n = 46 then x_begin k 15 L2 r2 else if T 4 n = 47 then x_begin k 16 L2 r2 else if T 4 n = 48 then x_begin k 17 L2 r2 else if T 4 n = 49 then x_begin k 18 L2 r2 else if T 4 n = 50 then x_begin k 18 L2 r2 else if T 4 n = 51 then x_begin k 19 L2 r2 else if T 4 n = 52 then x_begin k 20 L2 r2 else if T 4 n = 53 then x_begin k 21 L2 r2 else if T 4 n = 54 then x_begin k 23 L2 r2 else if T 4 n = 55 then x_begin k 24 L2 r2 else x_begin k 25 L2 r2) Q) : T2 (fun k => x_begin k 0 L1 σ1) (fun k => x_begin k 0 L2 σ2) Q := by
  obtain ⟨⟨g1, l1, B1, h1, X1, g2, l2, B2, h2, X2, m1, m2, hR⟩, e103, ty, h95, U1, U2, Z1, Z2, pq, ou⟩ := hI
  obtain ⟨_, _, ⟨n7, _, _⟩, _, _⟩ := Pos_b hW hP
  obtain ⟨_, ⟨p, p8, p4⟩, _⟩ := hW un d v n (LVs_S hP.2.2.1)
  refine T2_suc (fun k => by rw [x_begin]) (fun k => by rw [x_begin]) ?_
  refine T2_suc (fun k => by rw [x_begin]) (fun k => by rw [x_begin]) ?_
  rw [d1, d2]
  refine T2_chk (n_in (by omega) (by omega)) (n_in (by omega) (by omega)) ?_
  rw [n_cl (p := n) (by omega)]
  show T2 (fun k => if ¬ (σ1.2.2 8 n < 0 ∨ 401 ≤ (σ1.2.2 8 n).toNatClampNeg) then x_begin k 2 L1 (mSc (mSc σ1 103 (σ1.1 103 + 1)) 104 (σ1.2.2 11 (σ1.2.2 8 n).toNatClampNeg)) else none) (fun k => if ¬ (σ2.2.2 8 n < 0 ∨ 401 ≤ (σ2.2.2 8 n).toNatClampNeg) then x_begin k 2 L2 (mSc (mSc σ2 103 (σ2.1 103 + 1)) 104 (σ2.2.2 11 (σ2.2.2 8 n).toNatClampNeg)) else none) Q
  rw [Z1.1.1 8 _ (by omega) (by omega) (by omega), Z2.1.1 8 _ (by omega) (by omega) (by omega), p8, ← e103]
  refine T2_chk (n_in (by omega) (by omega)) (n_in (by omega) (by omega)) ?_
  rw [n_cl (p := p) (by omega), Z1.1.1 11 p (by omega) (by omega) (by omega), Z2.1.1 11 p (by omega) (by omega) (by omega)]
  refine T2_suc (fun k => by rw [x_begin]) (fun k => by rw [x_begin]) ?_
  refine T2_suc (fun k => by rw [x_begin]) (fun k => by rw [x_begin]) ?_
  refine T2_suc (fun k => by rw [x_begin]) (fun k => by rw [x_begin]) ?_
  refine T2_suc (fun k => by rw [x_begin]) (fun k => by rw [x_begin]) ?_
  refine T2_suc (fun k => by rw [x_begin]) (fun k => by rw [x_begin]) ?_
  refine T2_suc (fun k => by rw [x_begin]) (fun k => by rw [x_begin]) ?_
  refine T2_suc (fun k => by rw [x_begin]) (fun k => by rw [x_begin]) ?_
  show T2 (fun k => x_begin k 9 L1 (zB σ1 (σ1.1 103 + 1) (T 11 p))) (fun k => x_begin k 9 L2 (zB σ2 (σ1.1 103 + 1) (T 11 p))) Q
  have M1 := MI_z (x := σ1.1 103 + 1) (y := T 11 p) m1 U1
  have M2 := MI_z (x := σ1.1 103 + 1) (y := T 11 p) m2 U2
  have R1 := RA_z (x := σ1.1 103 + 1) (y := T 11 p) hR
  have W1 : UT (zB σ1 (σ1.1 103 + 1) (T 11 p)) := UT_c U1 rfl (zB_s (by omega)) (zB_s (by omega)) (zB_s (by omega))
  have W2 : UT (zB σ2 (σ1.1 103 + 1) (T 11 p)) := UT_c U2 rfl (zB_s (by omega)) (zB_s (by omega)) (zB_s (by omega))
  have C1 : Bs T FN (zB σ1 (σ1.1 103 + 1) (T 11 p)) := ⟨Z1.1, Z1.2.1, rfl, rfl, rfl, rfl, Z1.2.2⟩
  have C2 : Bs T FN (zB σ2 (σ1.1 103 + 1) (T 11 p)) := ⟨Z2.1, Z2.2.1, rfl, rfl, rfl, rfl, Z2.2.2⟩
  have hP' : Pos T S c un d v n F (zB σ1 (σ1.1 103 + 1) (T 11 p)) := hP
  have pq' : PtQ T S (zB σ1 (σ1.1 103 + 1) (T 11 p)) := fun q hq => pq q (by rw [zB_s (by omega)] at hq; exact hq)
  have ou' : Ou6 (zB σ1 (σ1.1 103 + 1) (T 11 p)) := by
    obtain ⟨o, o1, o2⟩ := ou
    exact ⟨o, (zB_s (by omega)).trans o1, o2⟩
  have h95' : ∃ a, (zB σ1 (σ1.1 103 + 1) (T 11 p)).1 95 = nI a ∧ a ≤ 1000000 := by
    obtain ⟨a, a1, a2⟩ := h95
    exact ⟨a, (zB_s (by omega)).trans a1, a2⟩
  have sw := E_sw4 M1 M2 R1 rfl rfl rfl rfl rfl rfl ty h95'
  have fin := fun r1 r2 => hQ (σ1.1 103 + 1) (T 11 p) r1 r2 rfl
  refine T2_suc (fun k => by rw [x_begin]) (fun k => by rw [x_begin]) ?_
  refine T2_ob sw (fun r1 r2 hr => ?_)
  obtain ⟨f1, f2, hE⟩ := hr
  have D1 := Bs_fc (I := fun _ => False) C1 (FC_fe f1)
  have D2 := Bs_fc (I := fun _ => False) C2 (FC_fe f2)
  rw [d1, d2]
  refine T2_chk (n_in (by omega) (by omega)) (n_in (by omega) (by omega)) ?_
  rw [n_cl (p := n) (by omega), D1.1.1 4 _ (by omega) (by omega) (by omega), D2.1.1 4 _ (by omega) (by omega) (by omega)]
  refine fin r1.2 r2.2 ⟨hE, UT_fe f1 W1, UT_fe f2 W2, D1, D2, fun j hj => ⟨f1.1 j (by unfold AlS; omega) (by omega) (by omega) (by omega), f2.1 j (by unfold AlS; omega) (by omega) (by omega) (by omega)⟩, PtQ_fc (I := fun _ => False) pq' (FC_fe f1), Ou6_fc (I := fun _ => False) ou' (FC_fe f1)⟩ (Pos_fs hW (FS_fe f1) hP') f1 f2
end BG1
end JnS266
section JnS267
theorem kC_z {σ : MS} {i : Nat} (h : σ.2.2 20 i = 0) : kC σ i = 0 := by
  unfold kC
  split
  · rfl
  · exact h
/-! A statement is begun on both sides (reference): its end, an error. -/
theorem mAr_i2 {σ : MS} {a i : Nat} {x : Int32} (h : σ.2.2 a i = x) : mAr σ a i x = σ := by
  have e := mAr_same (σ := σ) h
  show (σ.1, σ.2.1, (mAr σ a i x).2.2) = σ
  rw [e]
theorem mEr_id {σ : MS} {e : Int32} (h : ¬ σ.1 56 = 0) : mEr σ e = σ := by
  have : upd σ.1 56 (if σ.1 56 = 0 then e else σ.1 56) = σ.1 := by
    rw [if_neg h]
    funext i
    by_cases c : i = 56
    · rw [c, upd_same]
    · rw [upd_other c]
  show (upd σ.1 56 (if σ.1 56 = 0 then e else σ.1 56), σ.2.1, σ.2.2) = σ
  rw [this]
theorem EZ_s2 {a b j : Nat} {σ : MS} {x : Int32} (hj : ¬ (j = 54 ∨ j = 55 ∨ j = 56 ∨ j = 57 ∨ j = 59 ∨ j = 63 ∨ j = 72 ∨ j = 95)) (h : EZ a b σ) : EZ a b (mSc σ j x) := by
  obtain ⟨g, l, B, h', t, hM, h59, ha, hb, he, hE, ⟨w, w1, w2⟩, ⟨c, c1, c2⟩⟩ := h
  have o : ∀ i, i ≠ j → (mSc σ j x).1 i = σ.1 i := fun i hi => upd_other hi
  refine ⟨g, l, B, h', t, MI_c hM (o 54 (by omega)) (o 55 (by omega)) (o 63 (by omega)) (o 72 (by omega)) rfl, (o 59 (by omega)).trans h59, ha, hb, ?_, ErB_c (o 56 (by omega)) hE, ⟨w, (o 57 (by omega)).trans w1, w2⟩, ⟨c, (o 95 (by omega)).trans c1, c2⟩⟩
  rw [o 56 (by omega)]; exact he
section FGT
variable {σ : MS}
/-- what an error leaves to be forgotten is om already -/
theorem s_forget (hU : UT σ) (L : Nat → Int32) : Tm (fun k => x_forget k 0 L σ) (fun r => r = (0, σ)) := by
  obtain ⟨h64, P, h63, hP, h65, h32, hl, o1, o2, o3, ⟨c, c1, c2, c3⟩, o5⟩ := hU
  have c1 : σ.2.2 30 1 = nI c := c1
  have b15 : ∀ N : Nat → Int32, Tm (fun k => x_forget k 15 N σ) (fun r => r = (0, σ)) := fun N => Tm_suc (fun k => by rw [x_forget]) (Tm_some rfl)
  have st1 : ∀ s, s < 60 → StI (σ.2.2 30) 0 (4 + s) := fun s hs => Or.inl ⟨by omega, by omega⟩
  have st2 : ∀ j s, j < c → s < 60 → StI (σ.2.2 30) 0 (214 + 60 * j + s) := fun j s hj hs => by
    refine Or.inr (Or.inl ?_)
    rw [show (0 + 1) = 1 from rfl, c1, n_cl (p := c) (by omega)]; omega
  have b9 : ∀ (d j : Nat) (N : Nat → Int32), d + j = c → N 1 = nI j → Tm (fun k => x_forget k 9 N σ) (fun r => r = (0, σ)) := by
    intro d
    induction d with
    | zero =>
      intro j N hd n1
      have ej : j = c := by omega
      refine Tm_suc (fun k => by rw [x_forget]) ?_
      refine Tm_chk (by decide) ?_
      rw [show (1 : Int32).toNatClampNeg = 1 from by decide, c1, n1, ej]
      exact Tm_ite (fun _ => b15 _) (fun z => absurd (Int32.le_refl _) z)
    | succ d ih =>
      intro j N hd n1
      obtain ⟨pr, p1, p2⟩ := c3 j (by omega)
      have p1 : σ.2.2 30 (65 + 3 * j) = nI pr := by rw [Nat.zero_add] at p1; exact p1
      have e65 : (64 : Int32) + 3 * nI j + 1 = nI (65 + 3 * j) := by
        rw [show (3 : Int32) * nI j = nI (3 * j) from n_mulN 3 j, show (64 : Int32) + nI (3 * j) = nI (64 + 3 * j) from n_add (p := 64) (by omega), n_add1]; congr 1; omega
      have e60 : (60 : Int32) * (1 + nI pr) = nI (60 * (1 + pr)) := by
        rw [show (1 : Int32) + nI pr = nI (1 + pr) from n_add (p := 1) (by omega)]; exact n_mulN 60 (1 + pr)
      have b10 : ∀ (f s : Nat) (M : Nat → Int32), f + s = 60 → M 1 = nI j → M 2 = nI (60 * (1 + pr)) → M 3 = nI s → Tm (fun k => x_forget k 10 M σ) (fun r => r = (0, σ)) := by
        intro f
        induction f with
        | zero =>
          intro s M hf m1 m2 m3
          have es : s = 60 := by omega
          subst es
          refine Tm_suc (fun k => by rw [x_forget]) ?_
          rw [m3]
          refine Tm_ite (fun _ => ?_) (fun z => absurd ((n_le (p := 60) (q := 60) (by decide) (by decide)).mpr (Nat.le_refl _)) z)
          refine Tm_suc (fun k => by rw [x_forget]) ?_
          rw [m1, n_add1]
          exact ih (j + 1) _ (by omega) rfl
        | succ f ihf =>
          intro s M hf m1 m2 m3
          have e214 : (214 : Int32) + 60 * nI j + nI s = nI (214 + 60 * j + s) := by
            rw [show (60 : Int32) * nI j = nI (60 * j) from n_mulN 60 j, show (214 : Int32) + nI (60 * j) = nI (214 + 60 * j) from n_add (p := 214) (by omega), n_add (by omega)]
          have b12 : ∀ (J : Nat → Int32), J 1 = nI j → J 2 = nI (60 * (1 + pr)) → J 3 = nI s → J 100 = σ.2.2 30 (214 + 60 * j + s) → J 101 = nI (214 + 60 * j + s) → Tm (fun k => x_forget k 12 J σ) (fun r => r = (0, σ)) := by
            intro J j1 j2 j3 j100 j101
            refine Tm_suc (fun k => by rw [x_forget]) ?_
            rw [j101, j100]
            refine Tm_chk (n_in (by omega) (by omega)) ?_
            rw [n_cl (p := 214 + 60 * j + s) (by omega)]
            show Tm (fun k => x_forget k 13 J (mAr σ 30 (214 + 60 * j + s) (σ.2.2 30 (214 + 60 * j + s)))) _
            rw [mAr_i2 rfl]
            refine Tm_suc (fun k => by rw [x_forget]) ?_
            rw [j3, n_add1]
            exact ihf (s + 1) _ (by omega) j1 j2 rfl
          refine Tm_suc (fun k => by rw [x_forget]) ?_
          rw [m3, m2, m1, n_add (p := 60 * (1 + pr)) (by omega), e214]
          refine Tm_ite (fun z => ?_) (fun _ => ?_)
          · have := (n_le (p := 60) (by decide) (by omega)).mp z
            omega
          refine Tm_chk (n_in (by omega) (by omega)) ?_
          rw [n_cl (p := 60 * (1 + pr) + s) (by omega)]
          refine Tm_ite (fun z => ?_) (fun _ => ?_)
          · have z0 : σ.2.2 30 (214 + 60 * j + s) = 0 := by
              refine o1 _ (st2 j s (by omega) (by omega)) (Or.inr ⟨by omega, by omega, ?_⟩)
              rw [show (214 + 60 * j + s - 214) / 60 = j by omega, show (214 + 60 * j + s - 214) % 60 = s by omega, Nat.zero_add, p1, n_cl (p := pr) (by omega)]
              exact kC_z z
            refine Tm_suc (fun k => by rw [x_forget]) ?_
            exact b12 _ m1 m2 m3 z0.symm rfl
          · refine Tm_chk (n_in (by omega) (by omega)) ?_
            rw [n_cl (p := 214 + 60 * j + s) (by omega)]
            exact b12 _ m1 m2 m3 rfl rfl
      refine Tm_suc (fun k => by rw [x_forget]) ?_
      refine Tm_chk (by decide) ?_
      rw [show (1 : Int32).toNatClampNeg = 1 from by decide, c1, n1, e65]
      refine Tm_ite (fun z => ?_) (fun _ => ?_)
      · have := (n_le (by omega) (by omega)).mp z
        omega
      refine Tm_chk (n_in (by omega) (by omega)) ?_
      rw [n_cl (p := 65 + 3 * j) (by omega), p1, e60]
      exact b10 60 0 _ (by omega) n1 rfl rfl
  have b4 : ∀ (d s : Nat) (N : Nat → Int32), d + s = 60 → N 1 = nI s → Tm (fun k => x_forget k 4 N σ) (fun r => r = (0, σ)) := by
    intro d
    induction d with
    | zero =>
      intro s N hd n1
      have es : s = 60 := by omega
      subst es
      refine Tm_suc (fun k => by rw [x_forget]) ?_
      rw [n1]
      refine Tm_ite (fun _ => ?_) (fun z => absurd ((n_le (p := 60) (q := 60) (by decide) (by decide)).mpr (Nat.le_refl _)) z)
      refine Tm_suc (fun k => by rw [x_forget]) ?_
      exact b9 c 0 _ (by omega) rfl
    | succ d ih =>
      intro s N hd n1
      have e4 : (4 : Int32) + nI s = nI (4 + s) := n_add (p := 4) (by omega)
      have b6 : ∀ (J : Nat → Int32), J 1 = nI s → J 100 = σ.2.2 30 (4 + s) → J 101 = nI (4 + s) → Tm (fun k => x_forget k 6 J σ) (fun r => r = (0, σ)) := by
        intro J j1 j100 j101
        refine Tm_suc (fun k => by rw [x_forget]) ?_
        rw [j101, j100]
        refine Tm_chk (n_in (by omega) (by omega)) ?_
        rw [n_cl (p := 4 + s) (by omega)]
        show Tm (fun k => x_forget k 7 J (mAr σ 30 (4 + s) (σ.2.2 30 (4 + s)))) _
        rw [mAr_i2 rfl]
        refine Tm_suc (fun k => by rw [x_forget]) ?_
        rw [j1, n_add1]
        exact ih (s + 1) _ (by omega) rfl
      refine Tm_suc (fun k => by rw [x_forget]) ?_
      rw [n1, e4]
      refine Tm_ite (fun z => ?_) (fun _ => ?_)
      · have := (n_le (p := 60) (by decide) (by omega)).mp z
        omega
      refine Tm_chk (n_in (by omega) (by omega)) ?_
      rw [n_cl (p := s) (by omega)]
      refine Tm_ite (fun z => ?_) (fun _ => ?_)
      · have z0 : σ.2.2 30 (4 + s) = 0 := o1 _ (st1 s (by omega)) (Or.inl ⟨by omega, by omega, by rw [show 4 + s - 4 = s by omega]; exact kC_z z⟩)
        refine Tm_suc (fun k => by rw [x_forget]) ?_
        exact b6 _ n1 z0.symm rfl
      · refine Tm_chk (n_in (by omega) (by omega)) ?_
        rw [n_cl (p := 4 + s) (by omega)]
        exact b6 _ n1 rfl rfl
  have b1 : ∀ (d i : Nat) (N : Nat → Int32), d + i = 1380 → N 1 = nI i → Tm (fun k => x_forget k 1 N σ) (fun r => r = (0, σ)) := by
    intro d
    induction d with
    | zero =>
      intro i N hd n1
      have es : i = 1380 := by omega
      subst es
      refine Tm_suc (fun k => by rw [x_forget]) ?_
      rw [n1]
      refine Tm_ite (fun _ => ?_) (fun z => absurd ((n_le (p := 1380) (q := 1380) (by decide) (by decide)).mpr (Nat.le_refl _)) z)
      refine Tm_suc (fun k => by rw [x_forget]) ?_
      exact b4 60 0 _ (by omega) rfl
    | succ d ih =>
      intro i N hd n1
      refine Tm_suc (fun k => by rw [x_forget]) ?_
      rw [n1]
      refine Tm_ite (fun z => ?_) (fun _ => ?_)
      · have := (n_le (p := 1380) (by decide) (by omega)).mp z
        omega
      refine Tm_chk (n_in (by omega) (by omega)) ?_
      rw [n_cl (p := i) (by omega)]
      show Tm (fun k => x_forget k 2 N (mAr σ 33 i 0)) _
      rw [mAr_i2 (o3 i (by omega))]
      refine Tm_suc (fun k => by rw [x_forget]) ?_
      rw [n1, n_add1]
      exact ih (i + 1) _ (by omega) rfl
  refine Tm_suc (fun k => by rw [x_forget]) ?_
  exact b1 1380 0 _ (by omega) rfl
end FGT
/-- behind a statement's end -/
def BgQ (T : Nat → Nat → Int32) (FN : Nat → Nat → Prop) (S : Nat → Nat → Nat → Nat → Prop) (σ1 σ2 r1 r2 : MS) : Prop := (∃ t w XC, XC ≤ 401000 ∧ Mid T FN S t w XC σ1 σ2 r1 r2 ∧ (CTn T S r1 ∨ r1.1 102 = 1) ∧ r1.1 108 = nI w) ∨ ((UT r1 ∧ UT r2 ∧ Bs T FN r1 ∧ Bs T FN r2 ∧ ∀ j, j = 103 ∨ j = 104 ∨ j = 110 ∨ j = 68 → r1.1 j = σ1.1 j ∧ r2.1 j = σ2.1 j) ∧ EZ 0 179400 r1 ∧ EZ 0 179400 r2 ∧ r1.1 102 = 1 ∧ r2.1 102 = 1 ∧ r1.1 105 = r1.1 56 ∧ r2.1 105 = r2.1 56)
section BGE
variable {T : Nat → Nat → Int32} {FN : Nat → Nat → Prop} {S : Nat → Nat → Nat → Nat → Prop} {w : Nat} {σ1 σ2 s1 s2 : MS}
theorem Mid_108 {t XC : Nat} {x : Int32} (h : Mid T FN S t w XC σ1 σ2 s1 s2) : Mid T FN S t w XC σ1 σ2 (mSc s1 108 x) (mSc s2 108 x) := by
  obtain ⟨hE, U1, U2, B1, B2, kp, pq, o, o1, o2⟩ := h
  have bs : ∀ σ : MS, Bs T FN σ → Bs T FN (mSc σ 108 x) := fun σ h => ⟨h.1, h.2.1, h.2.2.1, h.2.2.2.1, h.2.2.2.2.1, h.2.2.2.2.2⟩
  refine ⟨EI_s (by omega) hE, UT_c U1 rfl rfl rfl rfl, UT_c U2 rfl rfl rfl rfl, bs _ B1, bs _ B2, fun j hj => ?_, pq, o, o1, o2⟩
  have := kp j hj
  exact ⟨(upd_other (by omega)).trans this.1, (upd_other (by omega)).trans this.2⟩
/-- a statement's end -/
theorem E_end (h : OuE T FN S w σ1 σ2 s1 s2) {L1 L2 : Nat → Int32} : T2 (fun k => x_begin k 26 L1 s1) (fun k => x_begin k 26 L2 s2) (fun r1 r2 => BgQ T FN S σ1 σ2 r1.2 r2.2) := by
  obtain ⟨t, XC, hXC, h⟩ := h
  refine T2_suc (fun k => by rw [x_begin]) (fun k => by rw [x_begin]) ?_
  show T2 (fun k => x_begin k 27 L1 (mSc s1 108 (s1.1 57))) (fun k => x_begin k 27 L2 (mSc s2 108 (s2.1 57))) _
  have b30 : ∀ (ρ1 ρ2 : MS) (K1 K2 : Nat → Int32), BgQ T FN S σ1 σ2 ρ1 ρ2 → T2 (fun k => x_begin k 30 K1 ρ1) (fun k => x_begin k 30 K2 ρ2) (fun r1 r2 => BgQ T FN S σ1 σ2 r1.2 r2.2) := fun ρ1 ρ2 K1 K2 h => T2_suc (fun k => by rw [x_begin]) (fun k => by rw [x_begin]) (T2_some h)
  rcases h with ⟨w', hw', hM, hc⟩ | ⟨⟨U1, U2, B1, B2, kp⟩, z1, z2⟩
  · obtain ⟨e1, e2⟩ := EI_e hM.1
    have w1 : s1.1 57 = nI w' := by
      obtain ⟨g1, l1, B1, h1, X1, g2, l2, B2, h2, X2, _, _, _, _, _, _, _, _, w1, _⟩ := hM.1
      exact w1
    have w2 : s2.1 57 = nI w' := by
      obtain ⟨g1, l1, B1, h1, X1, g2, l2, B2, h2, X2, _, _, hR, _⟩ := hM.1
      exact (hR.2.2.1 57 (by unfold AlS; omega)).symm.trans w1
    rw [w1, w2]
    have f1 : (mSc s1 108 (nI w')).1 56 = 0 := e1
    have f2 : (mSc s2 108 (nI w')).1 56 = 0 := e2
    have hM' := Mid_108 (x := nI w') hM
    have hc' : CTn T S (mSc s1 108 (nI w')) ∨ (mSc s1 108 (nI w')).1 102 = 1 := hc.imp (fun z => z) (fun z => z)
    have v108 : (mSc s1 108 (nI w')).1 108 = nI w' := rfl
    generalize mSc s1 108 (nI w') = ρ1 at *
    generalize mSc s2 108 (nI w') = ρ2 at *
    refine T2_suc (fun k => by rw [x_begin]) (fun k => by rw [x_begin]) ?_
    rw [f1, f2]
    refine T2_ite Iff.rfl (fun _ _ => ?_) (fun z _ => absurd (by decide) z)
    exact b30 _ _ _ _ (Or.inl ⟨t, w', XC, hXC, hM', hc', v108⟩)
  · have le1 : ¬ (mSc s1 108 (s1.1 57)).1 56 ≤ 0 := EZ_le z1
    have le2 : ¬ (mSc s2 108 (s2.1 57)).1 56 ≤ 0 := EZ_le z2
    refine T2_suc (fun k => by rw [x_begin]) (fun k => by rw [x_begin]) ?_
    refine T2_ite ⟨fun z => absurd z le1, fun z => absurd z le2⟩ (fun z _ => absurd z le1) (fun _ _ => ?_)
    refine T2_suc (fun k => by rw [x_begin]) (fun k => by rw [x_begin]) ?_
    show T2 (fun k => x_begin k 29 L1 (mSc (mSc (mSc s1 108 (s1.1 57)) 105 (s1.1 56)) 102 1)) (fun k => x_begin k 29 L2 (mSc (mSc (mSc s2 108 (s2.1 57)) 105 (s2.1 56)) 102 1)) _
    have ut : ∀ (s : MS) (x y : Int32), UT s → UT (mSc (mSc (mSc s 108 x) 105 y) 102 1) := fun s x y U => UT_c U rfl rfl rfl rfl
    have V1 := ut s1 (s1.1 57) (s1.1 56) U1
    have V2 := ut s2 (s2.1 57) (s2.1 56) U2
    have bs : ∀ (s : MS) (x y : Int32), Bs T FN s → Bs T FN (mSc (mSc (mSc s 108 x) 105 y) 102 1) := fun s x y h => ⟨h.1, h.2.1, h.2.2.1, h.2.2.2.1, h.2.2.2.2.1, h.2.2.2.2.2⟩
    have ez : ∀ (s : MS) (x y : Int32), EZ t 179400 s → EZ 0 179400 (mSc (mSc (mSc s 108 x) 105 y) 102 1) := fun s x y h => EZ_mo (EZ_s2 (by omega) (EZ_s2 (by omega) (EZ_s2 (by omega) h))) (Nat.zero_le _) (Nat.le_refl _)
    refine T2_suc (fun k => by rw [x_begin]) (fun k => by rw [x_begin]) ?_
    refine T2_ob (T2_t (s_forget V1 _) (s_forget V2 _)) (fun r1 r2 hr => ?_)
    rw [hr.1, hr.2]
    refine b30 _ _ _ _ (Or.inr ⟨⟨V1, V2, bs _ _ _ B1, bs _ _ _ B2, fun j hj => ?_⟩, ez _ _ _ z1, ez _ _ _ z2, rfl, rfl, rfl, rfl⟩)
    have := kp j hj
    refine ⟨Eq.trans ?_ this.1, Eq.trans ?_ this.2⟩
    · show upd (upd (upd s1.1 108 (s1.1 57)) 105 (s1.1 56)) 102 1 j = s1.1 j
      rw [upd_other (by omega), upd_other (by omega), upd_other (by omega)]
    · show upd (upd (upd s2.1 108 (s2.1 57)) 105 (s2.1 56)) 102 1 j = s2.1 j
      rw [upd_other (by omega), upd_other (by omega), upd_other (by omega)]
end BGE
end JnS267
section JnS268
/-! A statement is begun on both sides (reference): kind by kind. -/
/-- statements by their kinds -/
def SWk (T : Nat → Nat → Int32) (FN : Nat → Nat → Prop) (S : Nat → Nat → Nat → Nat → Prop) : Prop := SPt T FN S ∧ ∀ un d v n, S un d v n →
  ((T 4 n = 40 ∨ T 4 n = 41) → ∃ k ch s, T 5 n = nI (ch k) ∧ Tgt T FN (lcU un T) k ch ∧ NmW T (lcU un T) (cnU un T) (ch 0) s ∧ kys T ch k + 10 + KBn T ≤ 17000 ∧ Wx0 T FN (lcU un T) (T 6 n)) ∧
  (T 4 n = 42 → ∃ q KK, KK + 12 + KBn T ≤ 17000 ∧ q ≤ 20000 ∧ TgL T FN (lcU un T) (cnU un T) q KK (T 5 n) ∧ Wx0 T FN (lcU un T) (T 6 n)) ∧
  (T 4 n = 43 → ∃ ka kb sa sb cha chb, Tgt T FN (lcU un T) ka cha ∧ NmW T (lcU un T) (cnU un T) (cha 0) sa ∧ Tgt T FN (lcU un T) kb chb ∧ NmW T (lcU un T) (cnU un T) (chb 0) sb ∧ T 5 n = nI (cha ka) ∧ T 6 n = nI (chb kb) ∧ kys T cha ka + kys T chb kb + 14 + KBn T ≤ 17000) ∧
  (T 4 n = 45 → ∀ pr np, T 7 n = nI pr → pr < 41 → T 18 pr = nI np → np ≤ 8 → (∀ i, i < np → ¬ T 20 (60 * (1 + pr) + i) = 0) ∧ (T 17 pr = -1 ∨ ∃ b v', T 17 pr = nI b ∧ S (1 + pr) 0 v' b)) ∧
  (T 4 n = 47 → Wx0 T FN (lcU un T) (T 5 n) ∧ BdE T S un d v n (T 6 n)) ∧
  ((T 4 n = 49 ∨ T 4 n = 50) → hlp T d n) ∧
  (T 4 n = 51 → ¬ un = 0 ∧ (T 5 n = -1 ∨ Wx0 T FN (lcU un T) (T 5 n))) ∧
  (T 4 n = 52 → ∃ q, q + 9 + KBn T ≤ 17000 ∧ ExL T FN (lcU un T) q (T 5 n)) ∧
  (T 4 n = 53 → Wx0 T FN (lcU un T) (T 5 n))
theorem ob_as (f : Nat → Option (Int32 × MS)) (g h : Nat → Int32 × MS → Option (Int32 × MS)) : (fun k => ob (f k) (fun r5 => ob (g k r5) (fun r6 => h k r6))) = (fun k => ob (ob (f k) (fun r5 => g k r5)) (fun r6 => h k r6)) := by
  funext k
  cases f k with
  | none => rfl
  | some r => rfl
section BGN
variable {T : Nat → Nat → Int32} {FN : Nat → Nat → Prop} {S : Nat → Nat → Nat → Nat → Prop} {σ1 σ2 ζ1 ζ2 : MS}
/-- kind by kind -/
theorem E_kinds (hW : SWf T FN S) (hK : SWk T FN S) (hKB : 9 + KBn T ≤ 17000) {c un d v n : Nat} {F : List Nat} {r1 r2 : MS} (hM : Mid T FN S 0 0 400000 ζ1 ζ2 r1 r2) (hP : Pos T S c un d v n F r1) {L1 L2 : Nat → Int32} (d1 : L1 1 = nI n) (d2 : L2 1 = nI n) : T2 (fun k => if T 4 n = 40 then x_begin k 10 L1 r1 else if T 4 n = 41 then x_begin k 10 L1 r1 else if T 4 n = 42 then x_begin k 11 L1 r1 else if T 4 n = 43 then x_begin k 12 L1 r1 else if T 4 n = 44 then x_begin k 13 L1 r1 else if T 4 n = 45 then x_begin k 14 L1 r1 else if T 4 n = 46 then x_begin k 15 L1 r1 else if T 4 n = 47 then x_begin k 16 L1 r1 else if T 4 n = 48 then x_begin k 17 L1 r1 else if T 4 n = 49 then x_begin k 18 L1 r1 else if T 4 n = 50 then x_begin k 18 L1 r1 else if T 4 n = 51 then x_begin k 19 L1 r1 else if T 4 n = 52 then x_begin k 20 L1 r1 else if T 4 n = 53 then x_begin k 21 L1 r1 else if T 4 n = 54 then x_begin k 23 L1 r1 else if T 4 n = 55 then x_begin k 24 L1 r1 else x_begin k 25 L1 r1) (fun k => if T 4 n = 40 then x_begin k 10 L2 r2 else if T 4 n = 41 then x_begin k 10 L2 r2 else if T 4 n = 42 then x_begin k 11 L2 r2 else if T 4 n = 43 then x_begin k 12 L2 r2 else if T 4 n = 44 then x_begin k 13 L2 r2 else if T 4 n = 45 then x_begin k 14 L2 r2 else if T 4 n = 46 then x_begin k 15 L2 r2 else if T 4 n = 47 then x_begin k 16 L2 r2 else if T 4 n = 48 then x_begin k 17 L2 r2 else if T 4 n = 49 then x_begin k 18 L2 r2 else if T 4 n = 50 then x_begin k 18 L2 r2 else if T 4 n = 51 then x_begin k 19 L2 r2 else if T 4 n = 52 then x_begin k 20 L2 r2 else if T 4 n = 53 then x_begin k 21 L2 r2 else if T 4 n = 54 then x_begin k 23 L2 r2 else if T 4 n = 55 then x_begin k 24 L2 r2 else x_begin k 25 L2 r2) (fun q1 q2 => BgQ T FN S ζ1 ζ2 q1.2 q2.2) := by
  obtain ⟨hE, U1, U2, B1, B2, kp, pq, ou⟩ := id hM
  obtain ⟨_, _, ⟨n7, _, _⟩, _, _⟩ := Pos_b hW hP
  have hSc := Pos_sc B1 hP
  have hSn := LVs_S hP.2.2.1
  obtain ⟨hSP, hKn⟩ := hK
  obtain ⟨p44, p46⟩ := hSP un d v n hSn
  obtain ⟨k40, k42, k43, k45, k47, k49, k51, k52, k53⟩ := hKn un d v n hSn
  have oe : ∀ {t XC : Nat} {s1 s2 : MS}, XC ≤ 401000 → OuQ T FN S t 0 XC ζ1 ζ2 s1 s2 → OuE T FN S 0 ζ1 ζ2 s1 s2 := fun hX h => ⟨_, _, hX, h⟩
  -- an assignment
  have asg : (T 4 n = 40 ∨ T 4 n = 41) → T2 (fun k => x_begin k 10 L1 r1) (fun k => x_begin k 10 L2 r2) (fun q1 q2 => BgQ T FN S ζ1 ζ2 q1.2 q2.2) := by
    intro hk
    obtain ⟨k, ch, s, x5, hT, hN, hb, h6⟩ := k40 hk
    refine T2_suc (fun k => by rw [x_begin]) (fun k => by rw [x_begin]) ?_
    refine T2_ob (E_assignTo (Q := OuE T FN S 0 ζ1 ζ2) (by omega) n7 hT hN x5 h6 hb hSc hE U1 U2 ⟨fun τ1 τ2 f1 f2 V1 V2 z1 z2 => ?_, fun t w τ1 τ2 ht f1 f2 V1 V2 hJ K1 K2 q1 q2 => ?_⟩ (by exact d1) (by exact d2)) (fun s1 s2 hs => E_end hs)
    · exact oe (XC := 400000) (by omega) (OuQ_z (I := fun _ => False) hM (FC_fs f1) (FC_fs f2) V1 V2 (Nat.le_refl _) z1 z2)
    · exact T2_mono (E_pass (w := w) hW (by omega) ht (Nat.le_refl _) (Mid_fc (I := fun _ => False) hM (FC_fs f1) (FC_fs f2) hJ V1 V2) (Pos_fs hW f1 hP) q1 q2) (fun a b hab => oe (by omega) (OuQ_mo hab (Nat.zero_le _)))
  refine T2_ite Iff.rfl (fun z _ => asg (Or.inl z)) (fun _ _ => ?_)
  refine T2_ite Iff.rfl (fun z _ => asg (Or.inr z)) (fun _ _ => ?_)
  refine T2_ite Iff.rfl (fun z _ => ?_) (fun _ _ => ?_)
  · obtain ⟨q, KK, hb, hq, hL, h6⟩ := k42 z
    refine T2_suc (fun k => by rw [x_begin]) (fun k => by rw [x_begin]) ?_
    exact T2_ob (E_partsTo (t := 0) (KK := KK) hW (by omega) (by omega) hq (Nat.le_refl _) hM hP hL h6 (by exact d1) (by exact d2)) (fun s1 s2 hs => E_end hs)
  refine T2_ite Iff.rfl (fun z _ => ?_) (fun _ _ => ?_)
  · obtain ⟨ka, kb, sa, sb, cha, chb, a1, a2, a3, a4, a5, a6, a7⟩ := k43 z
    refine T2_suc (fun k => by rw [x_begin]) (fun k => by rw [x_begin]) ?_
    exact T2_ob (E_takeFrom (t := 0) hW (by omega) (Nat.le_refl _) hM hP a1 a2 a3 a4 a5 a6 (by omega) (by exact d1) (by exact d2)) (fun s1 s2 hs => E_end hs)
  refine T2_ite Iff.rfl (fun z _ => ?_) (fun _ _ => ?_)
  · obtain ⟨a, s, xa, hn⟩ := p44 z
    refine T2_suc (fun k => by rw [x_begin]) (fun k => by rw [x_begin]) ?_
    refine T2_ob (E_makePoint hW (by omega) (by omega) (Or.inl z) hM hP (by exact d1) (by exact d2)) (fun s1 s2 hs => ?_)
    rw [d1, d2]
    refine T2_chk (n_in (by omega) (by omega)) (n_in (by omega) (by omega)) ?_
    rw [n_cl (p := n) (by omega)]
    rcases hs with ⟨hN, hPn⟩ | ⟨⟨V1, V2, C1, C2, kp'⟩, z1, z2⟩
    · rw [hN.2.2.2.1.1.1 5 _ (by omega) (by omega) (by omega), hN.2.2.2.2.1.1.1 5 _ (by omega) (by omega) (by omega), xa]
      rw [ob_as (fun k => x_assign k 0 (upd (upd (fun _ => 0) 1 (nI a)) 2 2) s1.2) (fun k r5 => x_pass k 0 (upd (fun _ => 0) 1 (nI n)) r5.2) (fun k r6 => x_begin k 26 L1 r6.2), ob_as (fun k => x_assign k 0 (upd (upd (fun _ => 0) 1 (nI a)) 2 2) s2.2) (fun k r5 => x_pass k 0 (upd (fun _ => 0) 1 (nI n)) r5.2) (fun k r6 => x_begin k 26 L2 r6.2)]
      exact T2_ob (E_asgP (w := 0) (e := 2) hW (by omega) (by omega) (by omega) (Nat.le_refl _) hN hPn hn rfl rfl rfl rfl rfl rfl) (fun a b hab => E_end (oe (by omega) hab))
    · refine T2_ob (T2_t (s_asgZ (EZ_le z1)) (s_asgZ (EZ_le z2))) (fun a b hab => ?_)
      rw [hab.1, hab.2]
      refine T2_ob (T2_t (s_passZ (EZ_e z1)) (s_passZ (EZ_e z2))) (fun a b hab => ?_)
      rw [hab.1, hab.2]
      exact E_end (oe (t := 0) (XC := 400000) (by omega) (Or.inr ⟨⟨V1, V2, C1, C2, kp'⟩, z1, z2⟩))
  refine T2_ite Iff.rfl (fun z _ => ?_) (fun _ _ => ?_)
  · refine T2_suc (fun k => by rw [x_begin]) (fun k => by rw [x_begin]) ?_
    exact T2_ob (E_beginCall (w := 0) hW (by omega) (by omega) (Nat.le_refl _) hM hP z (k45 z) (by exact d1) (by exact d2)) (fun s1 s2 hs => E_end (oe (by omega) hs))
  refine T2_ite Iff.rfl (fun z _ => ?_) (fun _ _ => ?_)
  · obtain ⟨q, hB⟩ := p46 z
    refine T2_suc (fun k => by rw [x_begin]) (fun k => by rw [x_begin]) ?_
    rw [d1, d2]
    refine T2_chk (n_in (by omega) (by omega)) (n_in (by omega) (by omega)) ?_
    rw [n_cl (p := n) (by omega), B1.1.1 5 _ (by omega) (by omega) (by omega), B2.1.1 5 _ (by omega) (by omega) (by omega)]
    refine T2_ob ?_ (fun s1 s2 hs => E_end (w := 0) (oe (XC := 400000) (t := 0) (by omega) hs))
    refine T2_suc (fun k => by rw [x_decide]) (fun k => by rw [x_decide]) ?_
    exact E_decide (w := 0) hW (by omega) (by omega) z (q + 1) 0 (T 5 n) r1 r2 _ _ (Nat.le_refl _) hM hP hB rfl rfl rfl rfl
  refine T2_ite Iff.rfl (fun z _ => ?_) (fun _ _ => ?_)
  · obtain ⟨h5, h6⟩ := k47 z
    refine T2_suc (fun k => by rw [x_begin]) (fun k => by rw [x_begin]) ?_
    exact T2_ob (E_testAgain (w := 0) hW (by omega) (by omega) (Nat.le_refl _) hM hP z h5 h6 (by exact d1) (by exact d2)) (fun s1 s2 hs => E_end (oe (by omega) hs))
  refine T2_ite Iff.rfl (fun z _ => ?_) (fun _ _ => ?_)
  · refine T2_suc (fun k => by rw [x_begin]) (fun k => by rw [x_begin]) ?_
    exact T2_ob (E_beginFor (w := 0) hW (by omega) (by omega) (Nat.le_refl _) hM hP z (by exact d1) (by exact d2)) (fun s1 s2 hs => E_end (oe (by omega) hs))
  have lea : (T 4 n = 49 ∨ T 4 n = 50) → T2 (fun k => x_begin k 18 L1 r1) (fun k => x_begin k 18 L2 r2) (fun q1 q2 => BgQ T FN S ζ1 ζ2 q1.2 q2.2) := fun hk => by
    refine T2_suc (fun k => by rw [x_begin]) (fun k => by rw [x_begin]) ?_
    exact T2_ob (E_leave (w := 0) hW (by omega) (by omega) (Nat.le_refl _) hM hP (k49 hk) (by exact d1) (by exact d2)) (fun s1 s2 hs => E_end (oe (by omega) hs))
  refine T2_ite Iff.rfl (fun z _ => lea (Or.inl z)) (fun _ _ => ?_)
  refine T2_ite Iff.rfl (fun z _ => lea (Or.inr z)) (fun _ _ => ?_)
  refine T2_ite Iff.rfl (fun z _ => ?_) (fun _ _ => ?_)
  · obtain ⟨hu, h5⟩ := k51 z
    refine T2_suc (fun k => by rw [x_begin]) (fun k => by rw [x_begin]) ?_
    exact T2_ob (E_returns (w := 0) hW (by omega) (by omega) (Nat.le_refl _) hM hP hu h5 (by exact d1) (by exact d2)) (fun s1 s2 hs => E_end (oe (by omega) hs))
  refine T2_ite Iff.rfl (fun z _ => ?_) (fun _ _ => ?_)
  · obtain ⟨q, hb, hL⟩ := k52 z
    refine T2_suc (fun k => by rw [x_begin]) (fun k => by rw [x_begin]) ?_
    exact T2_ob (E_prints (t := 0) (q := q) hW (by omega) (by omega) (Nat.le_refl _) hM hP hL (by exact d1) (by exact d2)) (fun s1 s2 hs => E_end hs)
  refine T2_ite Iff.rfl (fun z _ => ?_) (fun _ _ => ?_)
  · -- assert
    have h5 := k53 z
    have b22 : ∀ (w' : Nat) (s1 s2 : MS), FE r1 s1 → FE r2 s2 → EI 0 w' 400000 s1 s2 → T2 (fun k => x_begin k 22 L1 s1) (fun k => x_begin k 22 L2 s2) (fun q1 q2 => BgQ T FN S ζ1 ζ2 q1.2 q2.2) := fun w' s1 s2 f1 f2 hJ => by
      refine T2_suc (fun k => by rw [x_begin]) (fun k => by rw [x_begin]) ?_
      exact T2_ob (E_pass (w := 0) hW (by omega) (by omega) (Nat.zero_le _) (Mid_fc (I := fun _ => False) hM (FC_fe f1) (FC_fe f2) hJ (UT_fe f1 U1) (UT_fe f2 U2)) (Pos_fs hW (FS_fe f1) hP) (by exact d1) (by exact d2)) (fun a b hab => E_end (oe (by omega) hab))
    have b22Z : ∀ (s1 s2 : MS), FE r1 s1 → FE r2 s2 → EZ 0 179300 s1 → EZ 0 179300 s2 → T2 (fun k => x_begin k 22 L1 s1) (fun k => x_begin k 22 L2 s2) (fun q1 q2 => BgQ T FN S ζ1 ζ2 q1.2 q2.2) := fun s1 s2 f1 f2 z1 z2 => by
      refine T2_suc (fun k => by rw [x_begin]) (fun k => by rw [x_begin]) ?_
      refine T2_ob (T2_t (s_passZ (EZ_e z1)) (s_passZ (EZ_e z2))) (fun a b hab => ?_)
      rw [hab.1, hab.2]
      exact E_end (oe (XC := 400000) (by omega) (OuQ_z (I := fun _ => False) hM (FC_fe f1) (FC_fe f2) (UT_fe f1 U1) (UT_fe f2 U2) (by omega) z1 z2))
    refine T2_suc (fun k => by rw [x_begin]) (fun k => by rw [x_begin]) ?_
    rw [d1, d2]
    refine T2_chk (n_in (by omega) (by omega)) (n_in (by omega) (by omega)) ?_
    rw [n_cl (p := n) (by omega), B1.1.1 5 _ (by omega) (by omega) (by omega), B2.1.1 5 _ (by omega) (by omega) (by omega)]
    refine T2_ob (E_hold (by omega) (by omega) hSc.1 h5 hE rfl rfl) (fun s1 s2 hs => ?_)
    obtain ⟨a1, f1, f2, a4⟩ := hs
    refine T2_ite (by rw [a1]) (fun _ _ => ?_) (fun nz _ => ?_)
    · refine T2_ob (T2_t (s_fail _ _) (s_fail _ _)) (fun y1 y2 hy => ?_)
      rw [hy.1, hy.2]
      rcases a4 with ⟨w', _, hJ⟩ | ⟨z1, z2, _⟩
      · obtain ⟨z1, z2⟩ := E_er (a := 0) (b := 179300) (e := 8) (by omega) hJ (by omega) (by decide) (Nat.le_refl _) (by omega)
        exact b22Z _ _ (FE_tr f1 FE_er) (FE_tr f2 FE_er) z1 z2
      · show T2 (fun k => x_begin k 22 L1 (mEr s1.2 8)) (fun k => x_begin k 22 L2 (mEr s2.2 8)) _
        rw [mEr_id (EZ_e z1), mEr_id (EZ_e z2)]
        exact b22Z _ _ f1 f2 z1 z2
    · rcases a4 with ⟨w', _, hJ⟩ | ⟨_, _, z0⟩
      · exact b22 w' _ _ f1 f2 hJ
      · exact absurd z0 nz
  refine T2_ite Iff.rfl (fun z _ => ?_) (fun _ _ => ?_)
  · -- stop
    refine T2_suc (fun k => by rw [x_begin]) (fun k => by rw [x_begin]) ?_
    show T2 (fun k => x_begin k 26 L1 (mSc r1 102 1)) (fun k => x_begin k 26 L2 (mSc r2 102 1)) _
    have bs : ∀ σ : MS, Bs T FN σ → Bs T FN (mSc σ 102 1) := fun σ h => ⟨h.1, h.2.1, h.2.2.1, h.2.2.2.1, h.2.2.2.2.1, h.2.2.2.2.2⟩
    refine E_end (w := 0) (oe (t := 0) (XC := 400000) (by omega) (Or.inl ⟨0, Nat.le_refl _, ⟨EI_s (by omega) hE, UT_c U1 rfl rfl rfl rfl, UT_c U2 rfl rfl rfl rfl, bs _ B1, bs _ B2, fun j hj => ?_, pq, ou⟩, Or.inr rfl⟩))
    have := kp j hj
    exact ⟨(upd_other (by omega)).trans this.1, (upd_other (by omega)).trans this.2⟩
  refine T2_ite Iff.rfl (fun z _ => ?_) (fun _ _ => ?_)
  · refine T2_suc (fun k => by rw [x_begin]) (fun k => by rw [x_begin]) ?_
    exact T2_ob (E_succeed (w := 0) hW (by omega) (by omega) (Nat.le_refl _) hM hP (by exact d1) (by exact d2)) (fun s1 s2 hs => E_end (oe (by omega) hs))
  · refine T2_suc (fun k => by rw [x_begin]) (fun k => by rw [x_begin]) ?_
    exact T2_ob (E_backTrack (w := 0) hW hSP (by omega) (by omega) (Nat.le_refl _) hM) (fun s1 s2 hs => E_end (oe (by omega) hs))
/-- a statement is begun -/
theorem E_begin (hW : SWf T FN S) (hK : SWk T FN S) (hKB : 9 + KBn T ≤ 17000) (hI : IV0 T FN S σ1 σ2) {c un d v n : Nat} {F : List Nat} (hP : Pos T S c un d v n F σ1) {L1 L2 : Nat → Int32} (d1 : L1 1 = nI n) (d2 : L2 1 = nI n) : T2 (fun k => x_begin k 0 L1 σ1) (fun k => x_begin k 0 L2 σ2) (fun r1 r2 => ∃ y, BgQ T FN S (zB σ1 (σ1.1 103 + 1) y) (zB σ2 (σ1.1 103 + 1) y) r1.2 r2.2) := by
  refine E_begin9 hW hI hP d1 d2 (fun x y r1 r2 ex hM hPr _ _ => ?_)
  subst ex
  exact T2_mono (E_kinds hW hK hKB hM hPr d1 d2) (fun q1 q2 h => ⟨y, h⟩)
end BGN
end JnS268
section JnS269
/-! Between statements again (reference): from a begin to the next. -/
section IVB
variable {T : Nat → Nat → Int32} {FN : Nat → Nat → Prop} {S : Nat → Nat → Nat → Nat → Prop} {t w XC : Nat} {σ1 σ2 r1 r2 : MS} {g1 g2 : Nat → Prop}
theorem RA_zz (hR : RA t g1 g2 r1 r2) : RA 0 g1 g2 (zB r1 0 0) (zB r2 0 0) := by
  refine ⟨fun a i z hv => hR.1 a i (RtP_mo (Nat.zero_le _) (RtP_z z)) hv, fun a i ha hz hn => hR.2.1 a i ha hz (fun y => hn ?_), fun j hj => ?_, hR.2.2.2⟩
  · unfold InA at y ⊢
    rw [zB_s (j := 63) (by omega), zB_s (j := 22) (by omega), zB_s (j := 24) (by omega), zB_s (j := 30) (by omega), zB_s (j := 44) (by omega), zB_0 (j := 72) (by omega), show (0 : Int32).toNatClampNeg = 0 from by decide]
    rcases y with y | y | y | y | y
    · exact Or.inl y
    · exact Or.inr (Or.inl y)
    · exact Or.inr (Or.inr (Or.inl y))
    · exact Or.inr (Or.inr (Or.inr (Or.inl ⟨y.1, by omega⟩)))
    · exact Or.inr (Or.inr (Or.inr (Or.inr y)))
  · by_cases e1 : j = 103
    · rw [e1]; rfl
    by_cases e2 : j = 104
    · rw [e2]; rfl
    by_cases c : j = 57 ∨ j = 59 ∨ j = 72 ∨ j = 56 ∨ j = 67 ∨ j = 97 ∨ j = 69
    · rw [zB_0 c, zB_0 c]
    · rw [zB_s (by omega), zB_s (by omega)]; exact hR.2.2.1 j hj
/-- midway, behind a begin: between statements -/
theorem IV0_mid (hM : Mid T FN S t w XC σ1 σ2 r1 r2) (h : σ1.1 103 = σ2.1 103) : IV0 T FN S r1 r2 := by
  obtain ⟨hE, U1, U2, B1, B2, kp, pq, o6⟩ := hM
  obtain ⟨g1, l1, D1, h1, X1, g2, l2, D2, h2, X2, m1, m2, hR, i1, i2, t1, e1, e2, w1, hw, x1, x2, ty, a, a1, a2⟩ := hE
  refine ⟨⟨g1, l1, D1, h1, X1, g2, l2, D2, h2, X2, MI_mo m1 (Nat.zero_le _), MI_mo m2 (Nat.zero_le _), RA_zz hR⟩, ?_, ty, ⟨a, a1, a2⟩, U1, U2, ⟨B1.1, B1.2.1, B1.2.2.2.2.2.2⟩, ⟨B2.1, B2.2.1, B2.2.2.2.2.2.2⟩, pq, o6⟩
  rw [(kp 103 (by omega)).1, (kp 103 (by omega)).2]; exact h
/-- both are between statements, no error: at a statement, or at the end -/
def IVs (T : Nat → Nat → Int32) (FN : Nat → Nat → Prop) (S : Nat → Nat → Nat → Nat → Prop) (σ1 σ2 : MS) : Prop := IV0 T FN S σ1 σ2 ∧ (CTn T S σ1 ∨ σ1.1 102 = 1)
/-- both have an error: the run has ended -/
def IVz (T : Nat → Nat → Int32) (FN : Nat → Nat → Prop) (σ1 σ2 : MS) : Prop := UT σ1 ∧ UT σ2 ∧ Bs T FN σ1 ∧ Bs T FN σ2 ∧ EZ 0 179400 σ1 ∧ EZ 0 179400 σ2 ∧ σ1.1 102 = 1 ∧ σ2.1 102 = 1 ∧ σ1.1 105 = σ1.1 56 ∧ σ2.1 105 = σ2.1 56
/-- a statement is begun: one more, and both are between statements, or both have an error -/
theorem E_bgn (hW : SWf T FN S) (hK : SWk T FN S) (hKB : 9 + KBn T ≤ 17000) (hI : IV0 T FN S σ1 σ2) (hC : CTn T S σ1) {L1 L2 : Nat → Int32} (d1 : L1 1 = σ1.2.2 30 0) (d2 : L2 1 = σ2.2.2 30 0) : T2 (fun k => x_begin k 0 L1 σ1) (fun k => x_begin k 0 L2 σ2) (fun r1 r2 => (r1.2.1 103 = σ1.1 103 + 1 ∧ r2.2.1 103 = σ1.1 103 + 1 ∧ r1.2.1 68 = σ1.1 68 ∧ r2.2.1 68 = σ2.1 68) ∧ (IVs T FN S r1.2 r2.2 ∨ IVz T FN r1.2 r2.2)) := by
  obtain ⟨c, un, d, v, n, F, hP, h0⟩ := hC
  have k0 : σ2.2.2 30 0 = nI n := by
    obtain ⟨_, _, _, _, _, _, _, _, _, _, _, _, hR⟩ := hI.1
    exact (hR.2.1 30 0 (by unfold AlR; omega) (by unfold Zn; omega) (InA_4 (by omega))).symm.trans h0
  refine T2_mono (E_begin hW hK hKB hI hP (d1.trans h0) (d2.trans k0)) (fun r1 r2 hr => ?_)
  obtain ⟨y, hr⟩ := hr
  have z1 : ∀ (σ : MS) (x y : Int32), (zB σ x y).1 103 = x := fun _ _ _ => rfl
  have z2 : ∀ (σ : MS) (x y : Int32), (zB σ x y).1 68 = σ.1 68 := fun _ _ _ => rfl
  rcases hr with ⟨t, w, XC, hXC, hM, hc, h8⟩ | ⟨⟨U1, U2, B1, B2, kp⟩, q1, q2, q3, q4, q5, q6⟩
  · have kp := hM.2.2.2.2.2.1
    refine ⟨⟨?_, ?_, ?_, ?_⟩, Or.inl ⟨IV0_mid hM ?_, hc⟩⟩
    · rw [(kp 103 (by omega)).1, z1]
    · rw [(kp 103 (by omega)).2, z1]
    · rw [(kp 68 (by omega)).1, z2]
    · rw [(kp 68 (by omega)).2, z2]
    · rw [z1, z1]
  · refine ⟨⟨?_, ?_, ?_, ?_⟩, Or.inr ⟨U1, U2, B1, B2, q1, q2, q3, q4, q5, q6⟩⟩
    · rw [(kp 103 (by omega)).1, z1]
    · rw [(kp 103 (by omega)).2, z1]
    · rw [(kp 68 (by omega)).1, z2]
    · rw [(kp 68 (by omega)).2, z2]
end IVB
end JnS269
section JnS270
/-! A run is set back to its beginning (reference): one side. -/
/-- one for a slot that counts -/
def fl1 (σ : MS) (s : Nat) : Nat := if kC σ s = 0 then 0 else 1
/-- midway: i slots are emptied -/
def Rs0 (i : Nat) (σ ρ : MS) : Prop := (ρ.2.1 96 = σ.2.1 113 ∧ ∀ j, j ≠ 96 → ρ.2.1 j = σ.2.1 j) ∧ (∀ j, j = 105 ∨ j = 56 ∨ j = 102 ∨ j = 103 ∨ j = 108 ∨ j = 106 ∨ j = 95 ∨ j = 63 ∨ j = 65 → ρ.1 j = 0) ∧ ρ.1 104 = -1 ∧ ρ.1 64 = nI (suN (fl1 σ) i) ∧ (∀ j, ¬ (j = 105 ∨ j = 56 ∨ j = 102 ∨ j = 103 ∨ j = 108 ∨ j = 106 ∨ j = 95 ∨ j = 63 ∨ j = 65 ∨ j = 104 ∨ j = 64) → ρ.1 j = σ.1 j) ∧ (∀ a, a ≠ 30 → ρ.2.2 a = σ.2.2 a) ∧ (∀ j, j = 1 ∨ j = 2 ∨ j = 3 → ρ.2.2 30 j = 0) ∧ (∀ j, 4 ≤ j → j < 4 + i → ρ.2.2 30 j = 0) ∧ ∀ j, ¬ (j = 1 ∨ j = 2 ∨ j = 3 ∨ (4 ≤ j ∧ j < 4 + i)) → ρ.2.2 30 j = σ.2.2 30 j
section RST
variable {σ ρ : MS} {Q : Int32 × MS → Prop}
theorem fl1_b (i : Nat) : suN (fl1 σ) i ≤ 1 * i := suN_bd (fun j _ => by unfold fl1; split <;> omega)
theorem Rs0_s {i : Nat} (h : Rs0 i σ ρ) : Rs0 (i + 1) σ (mSc (mAr ρ 30 (4 + i) 0) 64 (nI (suN (fl1 σ) (i + 1)))) := by
  obtain ⟨h1, h2, h3, h4, h5, h6, h7, h8, h9⟩ := h
  have rw30 : (mSc (mAr ρ 30 (4 + i) 0) 64 (nI (suN (fl1 σ) (i + 1)))).2.2 30 = upd (ρ.2.2 30) (4 + i) 0 := by
    show (mAr ρ 30 (4 + i) 0).2.2 30 = _
    rw [mAr_s]
  refine ⟨h1, fun j hj => ?_, ?_, rfl, fun j hj => ?_, fun a ha => ?_, fun j hj => ?_, fun j p q => ?_, fun j hj => ?_⟩
  · show upd ρ.1 64 _ j = _
    rw [upd_other (by omega)]; exact h2 j hj
  · show upd ρ.1 64 (nI (suN (fl1 σ) (i + 1))) 104 = -1
    rw [upd_other (by omega)]; exact h3
  · show upd ρ.1 64 _ j = _
    rw [upd_other (by omega)]; exact h5 j hj
  · show (mAr ρ 30 (4 + i) 0).2.2 a = _
    rw [mAr_o ha]; exact h6 a ha
  · rw [rw30, upd_other (by omega)]; exact h7 j hj
  · rw [rw30]
    by_cases e : j = 4 + i
    · rw [e, upd_same]
    · rw [upd_other e]; exact h8 j p (by omega)
  · rw [rw30, upd_other (by omega)]; exact h9 j (by omega)
/-- slots are emptied, those that count are counted -/
theorem s_rsL {ns : Nat} (h21 : σ.2.2 21 0 = nI ns) (hns : ns ≤ 60) (hQ : ∀ (ρ : MS) (N : Nat → Int32), Rs0 60 σ ρ → Tm (fun k => x_reset k 21 N ρ) Q) : ∀ (d i : Nat) (ρ : MS) (N : Nat → Int32), d + i = 60 → N 1 = nI i → Rs0 i σ ρ → Tm (fun k => x_reset k 16 N ρ) Q := by
  intro d
  induction d with
  | zero =>
    intro i ρ N hd n1 h
    have ei : i = 60 := by omega
    subst ei
    refine Tm_suc (fun k => by rw [x_reset]) ?_
    rw [n1]
    refine Tm_ite (fun _ => hQ ρ N h) (fun z => absurd (by decide) z)
  | succ d ih =>
    intro i ρ N hd n1 h
    have hb := fl1_b (σ := σ) i
    refine Tm_suc (fun k => by rw [x_reset]) ?_
    rw [n1]
    refine Tm_ite (fun z => ?_) (fun _ => ?_)
    · have := (show nI 60 ≤ nI i ↔ 60 ≤ i from n_le (by omega) (by omega)).mp z
      omega
    rw [show (4 : Int32) + nI i = nI (4 + i) from n_add (p := 4) (by omega)]
    refine Tm_chk (n_in (by omega) (by omega)) ?_
    rw [n_cl (p := 4 + i) (by omega)]
    show Tm (fun k => x_reset k 17 N (mAr ρ 30 (4 + i) 0)) Q
    have r21 : (mAr ρ 30 (4 + i) 0).2.2 21 = σ.2.2 21 := (mAr_o (by decide)).trans (h.2.2.2.2.2.1 21 (by decide))
    have r20 : (mAr ρ 30 (4 + i) 0).2.2 20 = σ.2.2 20 := (mAr_o (by decide)).trans (h.2.2.2.2.2.1 20 (by decide))
    have s64 : (mAr ρ 30 (4 + i) 0).1 64 = nI (suN (fl1 σ) i) := h.2.2.2.1
    have b19 : ∀ M : Nat → Int32, M 1 = nI i → M 100 = nI (fl1 σ i) → M 101 = nI (suN (fl1 σ) i) → Tm (fun k => x_reset k 19 M (mAr ρ 30 (4 + i) 0)) Q := fun M m1 m100 m101 => by
      have fb : fl1 σ i ≤ 1 := by unfold fl1; split <;> omega
      refine Tm_suc (fun k => by rw [x_reset]) ?_
      rw [m100, m101, n_add (by omega)]
      refine Tm_suc (fun k => by rw [x_reset]) ?_
      rw [m1, n_add1]
      exact ih (i + 1) (mSc (mAr ρ 30 (4 + i) 0) 64 (nI (suN (fl1 σ) (i + 1)))) _ (by omega) rfl (Rs0_s h)
    refine Tm_suc (fun k => by rw [x_reset]) ?_
    refine Tm_chk (by decide) ?_
    rw [show (0 : Int32).toNatClampNeg = 0 from by decide, r21, h21, n1, s64]
    refine Tm_ite (fun z => ?_) (fun z => ?_)
    · have z := (n_le (by omega) (by omega)).mp z
      have k0 : kC σ (60 * 0 + i) = 0 := kC_out (by omega) (by omega) (by rw [h21, n_cl (p := ns) (by omega)]; exact z)
      rw [show 60 * 0 + i = i by omega] at k0
      refine Tm_suc (fun k => by rw [x_reset]) ?_
      exact b19 _ n1 (by show (0 : Int32) = _; unfold fl1; rw [if_pos k0]; rfl) rfl
    · have z : i < ns := by
        have : ¬ ns ≤ i := fun q => z ((n_le (by omega) (by omega)).mpr q)
        omega
      have k0 : kC σ (60 * 0 + i) = σ.2.2 20 (60 * 0 + i) := kC_in (by omega) (by rw [h21, n_cl (p := ns) (by omega)]; exact z) (Nat.zero_le _)
      rw [show 60 * 0 + i = i by omega] at k0
      refine Tm_chk (n_in (by omega) (by omega)) ?_
      rw [n_cl (p := i) (by omega), r20]
      refine Tm_ite (fun y => ?_) (fun y => ?_)
      · refine Tm_suc (fun k => by rw [x_reset]) ?_
        exact b19 _ n1 (by show (0 : Int32) = _; unfold fl1; rw [if_pos (k0.trans y)]; rfl) rfl
      · exact b19 _ n1 (by show (1 : Int32) = _; unfold fl1; rw [if_neg (fun q => y (k0.symm.trans q))]; rfl) rfl
/-- the first statement is entered -/
theorem s_ent0 (h56 : ρ.1 56 = 0) (h1 : ρ.2.2 30 1 = 0) {L : Nat → Int32} (d2 : L 2 = -1) : Tm (fun k => x_enter k 0 L ρ) (fun r => r.2 = if L 1 = -1 then mSc ρ 102 1 else mAr ρ 30 0 (L 1)) := by
  refine Tm_suc (fun k => by rw [x_enter]) ?_
  refine Tm_ite (fun z => ?_) (fun z => ?_)
  · have fin : ∀ N : Nat → Int32, Tm (fun k => x_enter k 2 N (mSc ρ 102 1)) (fun r => r.2 = if L 1 = -1 then mSc ρ 102 1 else mAr ρ 30 0 (L 1)) := fun N => by
      refine Tm_suc (fun k => by rw [x_enter]) ?_
      exact Tm_some (by rw [if_pos z])
    have dn : ∀ N : Nat → Int32, N 1 = -1 → Tm (fun k => x_done k 0 N ρ) (fun r => r = (-1, mSc ρ 102 1)) := fun N n1 => by
      refine Tm_suc (fun k => by rw [x_done]) ?_
      rw [h56]
      refine Tm_ite (fun _ => ?_) (fun y => absurd (by decide) y)
      refine Tm_suc (fun k => by rw [x_done]) ?_
      rw [n1]
      refine Tm_ite (fun _ => ?_) (fun y => absurd rfl y)
      refine Tm_chk (by decide) ?_
      rw [show (1 : Int32).toNatClampNeg = 1 from by decide, h1]
      refine Tm_ite (fun _ => ?_) (fun y => absurd (by decide) y)
      refine Tm_suc (fun k => by rw [x_done]) ?_
      refine Tm_suc (fun k => by rw [x_done]) ?_
      exact Tm_some rfl
    refine Tm_suc (fun k => by rw [x_enter]) ?_
    rw [d2]
    have fd : ∀ N : Nat → Int32, N 1 = -1 → Tm (fun k => x_finished k 0 N ρ) (fun r => r.2 = mSc ρ 102 1) := fun N n1 => by
      refine Tm_suc (fun k => by rw [x_finished]) ?_
      rw [n1]
      refine Tm_suc (fun k => by rw [x_finished]) ?_
      refine Tm_ite (fun y => absurd (show (1 : Int32) = 0 from y) (by decide)) (fun _ => ?_)
      refine Tm_ob (dn _ rfl) (fun r hr => ?_)
      rw [hr]
      refine Tm_ite (fun _ => ?_) (fun y => absurd rfl y)
      refine Tm_suc (fun k => by rw [x_finished]) ?_
      refine Tm_suc (fun k => by rw [x_finished]) ?_
      refine Tm_ite (fun _ => ?_) (fun y => absurd rfl y)
      refine Tm_suc (fun k => by rw [x_finished]) ?_
      refine Tm_ite (fun _ => ?_) (fun y => absurd rfl y)
      refine Tm_suc (fun k => by rw [x_finished]) ?_
      refine Tm_suc (fun k => by rw [x_finished]) ?_
      refine Tm_ite (fun _ => ?_) (fun y => absurd rfl y)
      refine Tm_suc (fun k => by rw [x_finished]) ?_
      exact Tm_some rfl
    refine Tm_ob (fd _ rfl) (fun r hr => ?_)
    rw [hr]
    exact fin _
  · refine Tm_chk (by decide) ?_
    rw [show (0 : Int32).toNatClampNeg = 0 from by decide]
    refine Tm_suc (fun k => by rw [x_enter]) ?_
    exact Tm_some (by rw [if_neg z]; rfl)
section RS1
variable {L : Nat → Int32}
def mW9 (σ : MS) : MS := (σ.1, updW σ.2.1 96 (σ.2.1 113), σ.2.2)
theorem rs_0 (t : Tm (fun k => x_reset k 1 L (mW9 ρ)) Q) : Tm (fun k => x_reset k 0 L ρ) Q := Tm_suc (fun k => by rw [x_reset]; first | done | rfl) t
theorem rs_1 (t : Tm (fun k => x_reset k 2 L (mSc ρ 105 0)) Q) : Tm (fun k => x_reset k 1 L ρ) Q := Tm_suc (fun k => by rw [x_reset]; first | done | rfl) t
theorem rs_2 (t : Tm (fun k => x_reset k 3 L (mSc ρ 56 0)) Q) : Tm (fun k => x_reset k 2 L ρ) Q := Tm_suc (fun k => by rw [x_reset]; first | done | rfl) t
theorem rs_3 (t : Tm (fun k => x_reset k 4 L (mSc ρ 102 0)) Q) : Tm (fun k => x_reset k 3 L ρ) Q := Tm_suc (fun k => by rw [x_reset]; first | done | rfl) t
theorem rs_4 (t : Tm (fun k => x_reset k 5 L (mSc ρ 103 0)) Q) : Tm (fun k => x_reset k 4 L ρ) Q := Tm_suc (fun k => by rw [x_reset]; first | done | rfl) t
theorem rs_5 (t : Tm (fun k => x_reset k 6 L (mSc ρ 108 0)) Q) : Tm (fun k => x_reset k 5 L ρ) Q := Tm_suc (fun k => by rw [x_reset]; first | done | rfl) t
theorem rs_6 (t : Tm (fun k => x_reset k 7 L (mSc ρ 104 (-1))) Q) : Tm (fun k => x_reset k 6 L ρ) Q := Tm_suc (fun k => by rw [x_reset]; first | done | rfl) t
theorem rs_7 (t : Tm (fun k => x_reset k 8 L (mSc ρ 106 0)) Q) : Tm (fun k => x_reset k 7 L ρ) Q := Tm_suc (fun k => by rw [x_reset]; first | done | rfl) t
theorem rs_8 (t : Tm (fun k => x_reset k 9 L (mSc ρ 95 0)) Q) : Tm (fun k => x_reset k 8 L ρ) Q := Tm_suc (fun k => by rw [x_reset]; first | done | rfl) t
theorem rs_9 (t : Tm (fun k => x_reset k 10 L (mSc ρ 63 0)) Q) : Tm (fun k => x_reset k 9 L ρ) Q := Tm_suc (fun k => by rw [x_reset]; first | done | rfl) t
theorem rs_10 (t : Tm (fun k => x_reset k 11 L (mSc ρ 65 0)) Q) : Tm (fun k => x_reset k 10 L ρ) Q := Tm_suc (fun k => by rw [x_reset]; first | done | rfl) t
theorem rs_11 (t : Tm (fun k => x_reset k 12 L (mSc ρ 64 0)) Q) : Tm (fun k => x_reset k 11 L ρ) Q := Tm_suc (fun k => by rw [x_reset]; first | done | rfl) t
theorem rs_12 (t : Tm (fun k => x_reset k 13 L (mAr ρ 30 1 0)) Q) : Tm (fun k => x_reset k 12 L ρ) Q := Tm_suc (fun k => by rw [x_reset, if_pos (by decide)]; first | done | rfl) t
theorem rs_13 (t : Tm (fun k => x_reset k 14 L (mAr ρ 30 2 0)) Q) : Tm (fun k => x_reset k 13 L ρ) Q := Tm_suc (fun k => by rw [x_reset, if_pos (by decide)]; first | done | rfl) t
theorem rs_14 (t : Tm (fun k => x_reset k 15 L (mAr ρ 30 3 0)) Q) : Tm (fun k => x_reset k 14 L ρ) Q := Tm_suc (fun k => by rw [x_reset, if_pos (by decide)]; first | done | rfl) t
theorem rs_15 (t : Tm (fun k => x_reset k 16 (upd L 1 0) ρ) Q) : Tm (fun k => x_reset k 15 L ρ) Q := Tm_suc (fun k => by rw [x_reset]) t
end RS1
/-- set back -/
theorem s_reset {ns : Nat} (h21 : σ.2.2 21 0 = nI ns) (hns : ns ≤ 60) {L : Nat → Int32} : Tm (fun k => x_reset k 0 L σ) (fun r => ∃ ρ, Rs0 60 σ ρ ∧ r.2 = if σ.1 110 = -1 then mSc ρ 102 1 else mAr ρ 30 0 (σ.1 110)) := by
  have fin : ∀ (ρ : MS) (N : Nat → Int32), Rs0 60 σ ρ → Tm (fun k => x_reset k 21 N ρ) (fun r => ∃ ρ, Rs0 60 σ ρ ∧ r.2 = if σ.1 110 = -1 then mSc ρ 102 1 else mAr ρ 30 0 (σ.1 110)) := fun ρ N h => by
    have e110 : ρ.1 110 = σ.1 110 := h.2.2.2.2.1 110 (by omega)
    refine Tm_suc (fun k => by rw [x_reset]) ?_
    refine Tm_ob (s_ent0 (h.2.1 56 (by omega)) (h.2.2.2.2.2.2.1 1 (by omega)) rfl) (fun r hr => ?_)
    refine Tm_some ⟨ρ, h, ?_⟩
    show r.2 = _
    rw [hr, ← e110]
    rfl
  refine rs_0 (rs_1 (rs_2 (rs_3 (rs_4 (rs_5 (rs_6 (rs_7 (rs_8 (rs_9 (rs_10 (rs_11 (rs_12 (rs_13 (rs_14 (rs_15 ?_)))))))))))))))
  refine s_rsL h21 hns fin 60 0 _ _ (by omega) rfl ?_
  refine ⟨⟨?_, fun j hj => ?_⟩, fun j hj => ?_, rfl, rfl, fun j hj => ?_, fun a ha => ?_, fun j hj => ?_, fun j p q => by omega, fun j hj => ?_⟩
  · show updW σ.2.1 96 (σ.2.1 113) 96 = _
    unfold updW; rw [if_pos rfl]
  · show updW σ.2.1 96 (σ.2.1 113) j = _
    unfold updW; rw [if_neg hj]
  · rcases hj with e | e | e | e | e | e | e | e | e <;> (rw [e]; rfl)
  · show upd (upd (upd (upd (upd (upd (upd (upd (upd (upd (upd σ.1 105 0) 56 0) 102 0) 103 0) 108 0) 104 (-1)) 106 0) 95 0) 63 0) 65 0) 64 0 j = _
    rw [upd_other (by omega), upd_other (by omega), upd_other (by omega), upd_other (by omega), upd_other (by omega), upd_other (by omega), upd_other (by omega), upd_other (by omega), upd_other (by omega), upd_other (by omega), upd_other (by omega)]
  · show (mAr (mAr (mAr σ 30 1 0) 30 2 0) 30 3 0).2.2 a = _
    rw [mAr_o ha, mAr_o ha, mAr_o ha]
  · show (mAr (mAr (mAr σ 30 1 0) 30 2 0) 30 3 0).2.2 30 j = _
    rcases hj with e | e | e
    · rw [e, mAr_s, upd_other (by decide), mAr_s, upd_other (by decide), mAr_s, upd_same]
    · rw [e, mAr_s, upd_other (by decide), mAr_s, upd_same]
    · rw [e, mAr_s, upd_same]
  · show (mAr (mAr (mAr σ 30 1 0) 30 2 0) 30 3 0).2.2 30 j = _
    rw [mAr_s, upd_other (by omega), mAr_s, upd_other (by omega), mAr_s, upd_other (by omega)]
end RST
end JnS270
section JnS271
/-! A run is set back to its beginning (reference): both sides. -/
/-- behind reset -/
def Rs1 (σ ρ : MS) : Prop := (ρ.2.1 96 = σ.2.1 113 ∧ ∀ j, j ≠ 96 → ρ.2.1 j = σ.2.1 j) ∧ (∀ j, j = 105 ∨ j = 56 ∨ j = 103 ∨ j = 108 ∨ j = 106 ∨ j = 95 ∨ j = 63 ∨ j = 65 → ρ.1 j = 0) ∧ ρ.1 104 = -1 ∧ ρ.1 64 = nI (suN (fl1 σ) 60) ∧ ρ.1 102 = (if σ.1 110 = -1 then 1 else 0) ∧ (∀ j, ¬ (j = 105 ∨ j = 56 ∨ j = 102 ∨ j = 103 ∨ j = 108 ∨ j = 106 ∨ j = 95 ∨ j = 63 ∨ j = 65 ∨ j = 104 ∨ j = 64) → ρ.1 j = σ.1 j) ∧ (∀ a, a ≠ 30 → ρ.2.2 a = σ.2.2 a) ∧ (∀ j, 1 ≤ j → j < 64 → ρ.2.2 30 j = 0) ∧ ρ.2.2 30 0 = (if σ.1 110 = -1 then σ.2.2 30 0 else σ.1 110)
section RS2
variable {T : Nat → Nat → Int32} {FN : Nat → Nat → Prop} {S : Nat → Nat → Nat → Nat → Prop} {σ ρ σ1 σ2 ρ1 ρ2 : MS}
theorem Rs1_of (h : Rs0 60 σ ρ) : Rs1 σ (if σ.1 110 = -1 then mSc ρ 102 1 else mAr ρ 30 0 (σ.1 110)) := by
  obtain ⟨h1, h2, h3, h4, h5, h6, h7, h8, h9⟩ := h
  have lo : ∀ j, 1 ≤ j → j < 64 → ρ.2.2 30 j = 0 := fun j p q => by
    by_cases c : j = 1 ∨ j = 2 ∨ j = 3
    · exact h7 j c
    · exact h8 j (by omega) (by omega)
  by_cases z : σ.1 110 = -1
  · rw [if_pos z]
    refine ⟨h1, fun j hj => ?_, ?_, ?_, ?_, fun j hj => ?_, h6, lo, ?_⟩
    · show upd ρ.1 102 1 j = 0
      rw [upd_other (by omega)]; exact h2 j (by omega)
    · show upd ρ.1 102 1 104 = -1
      rw [upd_other (by omega)]; exact h3
    · show upd ρ.1 102 1 64 = _
      rw [upd_other (by omega)]; exact h4
    · rw [if_pos z]; rfl
    · show upd ρ.1 102 1 j = _
      rw [upd_other (by omega)]; exact h5 j hj
    · rw [if_pos z]; exact h9 0 (by omega)
  · rw [if_neg z]
    refine ⟨h1, fun j hj => h2 j (by omega), h3, h4, ?_, h5, fun a ha => ?_, fun j p q => ?_, ?_⟩
    · rw [if_neg z]; exact h2 102 (by omega)
    · rw [mAr_o ha]; exact h6 a ha
    · rw [mAr_s, upd_other (by omega)]; exact lo j p q
    · rw [if_neg z, mAr_s, upd_same]
theorem E_rs1 {ns : Nat} (h21 : σ.2.2 21 0 = nI ns) (hns : ns ≤ 60) {L : Nat → Int32} : Tm (fun k => x_reset k 0 L σ) (fun r => Rs1 σ r.2) :=
  Tm_mono (s_reset h21 hns) (fun r hr => by
    obtain ⟨ρ, h, e⟩ := hr
    rw [e]; exact Rs1_of h)
theorem RtP_rs1 (h : Rs1 σ ρ) {a i : Nat} (z : RtP 0 ρ a i) : (a = 30 ∧ 4 ≤ i ∧ i < 64) ∨ (a ≠ 30 ∧ RtP 0 σ a i) := by
  obtain ⟨h1, h2, h3, h4, h5, h6, h7, h8, h9⟩ := h
  unfold RtP at z ⊢
  rw [h2 63 (by omega), h6 72 (by omega)] at z
  rcases z with z | ⟨z, y⟩ | ⟨z, p, hp, y⟩ | z | z | z | z | z | z
  · omega
  · left
    unfold StI at y
    rw [show (0 + 1) = 1 from rfl, show (0 + 3) = 3 from rfl, h8 1 (by omega) (by omega), h8 3 (by omega) (by omega), show (0 : Int32).toNatClampNeg = 0 from by decide] at y
    omega
  · rw [show (0 : Int32).toNatClampNeg = 0 from by decide] at hp; omega
  · exact Or.inr ⟨by omega, Or.inr (Or.inr (Or.inr (Or.inl z)))⟩
  · exact Or.inr ⟨by omega, Or.inr (Or.inr (Or.inr (Or.inr (Or.inl z))))⟩
  · exact Or.inr ⟨by omega, Or.inr (Or.inr (Or.inr (Or.inr (Or.inr (Or.inl z)))))⟩
  · exact Or.inr ⟨by omega, Or.inr (Or.inr (Or.inr (Or.inr (Or.inr (Or.inr (Or.inl z))))))⟩
  · exact Or.inr ⟨by omega, Or.inr (Or.inr (Or.inr (Or.inr (Or.inr (Or.inr (Or.inr (Or.inl z)))))))⟩
  · exact Or.inr ⟨by omega, Or.inr (Or.inr (Or.inr (Or.inr (Or.inr (Or.inr (Or.inr (Or.inr z)))))))⟩
theorem MI_rs1 {g : Nat → Prop} {l : List Nat} {B h X : Nat} (hR : Rs1 σ ρ) (hM : MI 0 X g l B h σ) : MI 0 X g l B h ρ := by
  obtain ⟨h1, h2, h3, h4, h5, h6, h7, h8, h9⟩ := id hR
  obtain ⟨P, e, y1, y2, y3, y4, y5, y6⟩ := id hM.2.1
  refine MI_re hM (h6 54 (by omega)) (h6 55 (by omega)) (h7 28 (by decide)) ⟨0, e, h2 63 (by omega), by omega, (h6 72 (by omega)).trans y3, y4, ⟨0, 0, h8 1 (by omega) (by omega), by omega, h8 3 (by omega) (by omega), by omega⟩, fun p hp => absurd hp (by omega)⟩ (fun a i z => ?_)
  rcases RtP_rs1 hR z with ⟨e1, e2, e3⟩ | ⟨e1, e2⟩
  · rw [e1, h8 i (by omega) e3]; exact ⟨0, rfl, Or.inl (by decide)⟩
  · rw [h7 a e1]; exact MI_rt hM e2
/-- the totals behind reset -/
theorem UT_rs1 (hR : Rs1 σ ρ) (h33 : ∀ i, i < 1380 → σ.2.2 33 i = 0) : UT ρ := by
  obtain ⟨h1, h2, h3, h4, h5, h6, h7, h8, h9⟩ := hR
  have k : kC ρ = kC σ := kC_r (h7 20 (by decide)) (h7 21 (by decide)) (h6 30 (by omega))
  have st : ∀ i, StI (ρ.2.2 30) 0 i → 4 ≤ i ∧ i < 64 := fun i y => by
    unfold StI at y
    rw [show (0 + 1) = 1 from rfl, show (0 + 3) = 3 from rfl, h8 1 (by omega) (by omega), h8 3 (by omega) (by omega), show (0 : Int32).toNatClampNeg = 0 from by decide] at y
    omega
  have st' : ∀ i, 4 ≤ i → i < 64 → StI (ρ.2.2 30) 0 i := fun i p q => by unfold StI; omega
  have sS : StS ρ = suN (fl1 σ) 60 := by
    unfold StS SzS
    rw [suN_blk (f := szP (ρ.2.2 28) (kC ρ) (ρ.2.2 30) 0) (g := fun _ => 0) (a := 4) (n := 11514) (by omega) (fun j _ c => ?_) (fun _ _ _ => rfl), suN_0 (fun _ _ => rfl), Nat.zero_add]
    · refine suN_c (fun j hj => ?_)
      show szP (ρ.2.2 28) (kC ρ) (ρ.2.2 30) 0 (4 + j) = fl1 σ j
      have nu : NUa (kC ρ) (ρ.2.2 30) 0 (4 + j) ↔ kC σ j = 0 := by
        unfold NUa
        rw [k, show 4 + j - 4 = j by omega]
        constructor
        · rintro (z | z)
          · exact z.2.2
          · omega
        · intro z; exact Or.inl ⟨by omega, by omega, z⟩
      unfold szP fl1
      by_cases c : kC σ j = 0
      · rw [if_pos c, if_neg (fun z => z.2 (nu.mpr c))]
      · rw [if_neg c, if_pos ⟨st' _ (by omega) (by omega), fun z => c (nu.mp z)⟩, Nat.zero_add, h8 (4 + j) (by omega) (by omega), show (0 : Int32).toNatClampNeg = 0 from by decide, szN_0]
    · unfold szP
      rw [if_neg (fun z => by have := st _ z.1; omega)]
  have b := fl1_b (σ := σ) 60
  refine ⟨by rw [h4, sS], 0, h2 63 (by omega), by omega, h2 65 (by omega), fun p hp => absurd hp (by omega), ?_, fun i y _ => ?_, fun p hp => absurd hp (by omega), fun i hi => ?_, ⟨0, h8 1 (by omega) (by omega), by omega, fun i hi => absurd hi (by omega)⟩, fun p hp => absurd hp (by omega)⟩
  · show StS ρ + 0 ≤ 40000
    rw [sS]; omega
  · have := st i y
    exact h8 i (by omega) (by omega)
  · rw [h7 33 (by decide)]; exact h33 i hi
theorem Bz_rs1 (hR : Rs1 σ ρ) (hB : Bz T FN σ) : Bz T FN ρ := by
  obtain ⟨h1, h2, h3, h4, h5, h6, h7, h8, h9⟩ := hR
  have k : kC ρ = kC σ := kC_r (h7 20 (by decide)) (h7 21 (by decide)) (h6 30 (by omega))
  refine ⟨STb_b hB.1 (fun j hj => h6 j (by omega)) (fun a i q => by rw [h7 a (by omega)]), fun a i p q r => by rw [h7 a (by omega)]; exact hB.2.1 a i p q r, fun i => by rw [k]; exact hB.2.2 i⟩
end RS2
end JnS271
