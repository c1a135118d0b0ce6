/-! Statements on both sides (reference): a member is taken out. -/
section EXS
variable {t w XC XC' : Nat} {σ1 σ2 : MS} {g1 g2 : Nat → Prop} {l1 l2 : List Nat} {B1 h1 X1 B2 h2 X2 : Nat}
theorem EIx_xc (hX : EIx t w XC σ1 σ2 g1 l1 B1 h1 X1 g2 l2 B2 h2 X2) (h : XC ≤ XC') (r1 : h1 + (XC' - 400000) + 10 ≤ B1 + 870000) (r2 : h2 + (XC' - 400000) + 10 ≤ B2 + 870000) : EIx t w XC' σ1 σ2 g1 l1 B1 h1 X1 g2 l2 B2 h2 X2 := by
  obtain ⟨m1, m2, hR, i1, i2, t1, e1, e2, w1, hw, x1, x2, ty, a, a1, a2⟩ := hX
  exact ⟨m1, m2, hR, i1, i2, t1, e1, e2, w1, ⟨hw.1, r1, r2⟩, by omega, by omega, ty, a, a1, a2⟩
theorem EIx_dn {u : Nat} (hu : u ≤ t) (hX : EIx t w XC σ1 σ2 g1 l1 B1 h1 X1 g2 l2 B2 h2 X2) : EIx u w XC (mSc σ1 59 (nI u)) (mSc σ2 59 (nI u)) g1 l1 B1 h1 X1 g2 l2 B2 h2 X2 := by
  obtain ⟨m1, m2, hR, i1, i2, t1, e1, e2, w1, hw, x1, x2, ty, a, a1, a2⟩ := hX
  exact ⟨MI_59 (MI_mo m1 hu), MI_59 (MI_mo m2 hu), RA_59 (RA_mo hu hR), IT_c rfl rfl rfl rfl i1, IT_c rfl rfl rfl rfl i2, rfl, e1, e2, w1, hw, x1, x2, ty, a, a1, a2⟩
/-- a value is pushed: X is told -/
theorem EIx_pu {x y : Int32} {Y1 Y2 : Nat} (hX : EIx t w XC σ1 σ2 g1 l1 B1 h1 X1 g2 l2 B2 h2 X2) (hv : VC g1 g2 (σ1.2.2 28) (σ2.2.2 28) x y) (n1 : MI (t + 1) Y1 g1 l1 B1 h1 (mPu σ1 t x)) (n2 : MI (t + 1) Y2 g2 l2 B2 h2 (mPu σ2 t y)) (y1 : Y1 ≤ XC + 6 * w) (y2 : Y2 ≤ XC + 6 * w) : EIx (t + 1) w XC (mPu σ1 t x) (mPu σ2 t y) g1 l1 B1 h1 Y1 g2 l2 B2 h2 Y2 := by
  obtain ⟨m1, m2, hR, i1, i2, t1, e1, e2, w1, hw, x1, x2, ⟨ty1, ty2⟩, a, a1, a2⟩ := hX
  refine ⟨n1, n2, RA_pu m1.2.1 hR hv, IT_c (mPu_s (by decide)) (mPu_o (by decide)) (mPu_o (by decide)) (mPu_o (by decide)) i1, IT_c (mPu_s (by decide)) (mPu_o (by decide)) (mPu_o (by decide)) (mPu_o (by decide)) i2, rfl, ?_, ?_, ?_, hw, y1, y2, ⟨?_, ?_⟩, a, ?_, a2⟩
  · rw [mPu_s (by decide)]; exact e1
  · rw [mPu_s (by decide)]; exact e2
  · rw [mPu_s (by decide)]; exact w1
  · rw [mPu_o (by decide)]; exact ty1
  · rw [mPu_o (by decide), mPu_o (by decide)]; exact ty2
  · rw [mPu_s (by decide)]; exact a1
theorem EIx_pr {x y : Int32} (hX : EIx t w XC σ1 σ2 g1 l1 B1 h1 X1 g2 l2 B2 h2 X2) (hv : VC g1 g2 (σ1.2.2 28) (σ2.2.2 28) x y) (hx : ∃ m, x = nI m ∧ (m < 3 ∨ Rch (σ1.2.2 28) (RoS t σ1) m)) (hy : ∃ m, y = nI m ∧ (m < 3 ∨ Rch (σ2.2.2 28) (RoS t σ2) m)) : EIx (t + 1) w XC (mPu σ1 t x) (mPu σ2 t y) g1 l1 B1 h1 X1 g2 l2 B2 h2 X2 := by
  obtain ⟨m, mm1, mm2⟩ := hx
  obtain ⟨q, q1, q2⟩ := hy
  have hX0 := hX
  obtain ⟨m1, m2, hR, i1, i2, t1, e1, e2, w1, hw, x1, x2, _⟩ := hX0
  exact EIx_pu hX hv (by rw [mm1]; exact MI_pur m1 mm2) (by rw [q1]; exact MI_pur m2 q2) x1 x2
end EXS
/-- the top's value is another -/
theorem mAr_pu {ρ : MS} {t : Nat} {x : Int32} (h59 : ρ.1 59 = nI (t + 1)) : mPu (mSc ρ 59 (nI t)) t x = mAr ρ 29 t x := by
  have e1 : upd (upd ρ.1 59 (nI t)) 59 (nI (t + 1)) = ρ.1 := by
    funext i
    by_cases e : i = 59
    · rw [e, upd_same, h59]
    · rw [upd_other e, upd_other e]
  show (upd (upd ρ.1 59 (nI t)) 59 (nI (t + 1)), ρ.2.1, updG ρ.2.2 29 (upd (ρ.2.2 29) t x)) = (ρ.1, ρ.2.1, updG ρ.2.2 29 (upd (ρ.2.2 29) t x))
  rw [e1]
theorem sz_ch {g : Nat → Prop} {l : List Nat} {B h m : Nat} {σ : MS} (hS : HS g l B h σ) (hm : g m) (k4 : σ.2.2 28 m = nI 4) (l1 : σ.2.2 28 (m + 1) = nI 1) : szN (σ.2.2 28) m = 2 := by
  obtain ⟨_, k, n, s, hh, c1, c2, c3, c4, c5, c6, c7, c8, c9, c10, c11, c12⟩ := hS.2.2.2.2.2 m hm
  have ek : k = 4 := (n_eq (by omega) (by decide)).mp (c1.symm.trans k4)
  have en : n = 1 := (n_eq (by omega) (by decide)).mp (c2.symm.trans l1)
  have e := c11 ek
  rw [en] at e
  obtain ⟨_, _, _, h4, _⟩ := ob_at hS hm
  unfold szN
  rw [if_neg (by omega), c3, n_cl (p := s) (by omega), e]
section OQM
variable {T : Nat → Nat → Int32} {FN : Nat → Nat → Prop} {S : Nat → Nat → Nat → Nat → Prop} {t w w2 XC : Nat} {σ1 σ2 r1 r2 : MS}
theorem OuQ_mo (h : OuQ T FN S t w2 XC σ1 σ2 r1 r2) (hw : w ≤ w2) : OuQ T FN S t w XC σ1 σ2 r1 r2 := by
  rcases h with ⟨w', h1, h2, h3⟩ | h
  · exact Or.inl ⟨w', by omega, h2, h3⟩
  · exact Or.inr h
end OQM
section TKF
variable {T : Nat → Nat → Int32} {FN : Nat → Nat → Prop} {S : Nat → Nat → Nat → Nat → Prop} {t w XC : Nat} {σ1 σ2 : MS}
/-- a member is taken out -/
theorem E_takeFrom (hW : SWf T FN S) (hXC : XC ≤ 400900) {c un d v n w' ka kb sa sb : Nat} {cha chb : Nat → Nat} {F : List Nat} {τ1 τ2 : MS} (hw : w ≤ w') (hM : Mid T FN S t w' XC σ1 σ2 τ1 τ2) (hP : Pos T S c un d v n F τ1) (hTa : Tgt T FN (lcU un T) ka cha) (hNa : NmW T (lcU un T) (cnU un T) (cha 0) sa) (hTb : Tgt T FN (lcU un T) kb chb) (hNb : NmW T (lcU un T) (cnU un T) (chb 0) sb) (x5 : T 5 n = nI (cha ka)) (x6 : T 6 n = nI (chb kb)) (ht : t + kys T cha ka + kys T chb kb + 14 + KBn T ≤ 17000) {L1 L2 : Nat → Int32} (d1 : L1 1 = nI n) (d2 : L2 1 = nI n) : T2 (fun k => x_takeFrom k 0 L1 τ1) (fun k => x_takeFrom k 0 L2 τ2) (fun r1 r2 => OuE T FN S w σ1 σ2 r1.2 r2.2) := by
  obtain ⟨hE, U1, U2, B1, B2, kp⟩ := id hM
  have w6 := EI_w hE
  obtain ⟨_, _, ⟨n7, _, _⟩, pb3, pb4⟩ := Pos_b hW hP
  have hSc := Pos_sc B1 hP
  have hSc2 := Sc1_ei hSc hE
  obtain ⟨s1, s2⟩ := EI_59 hE
  have kga := kys_ge (T := T) (ch := cha) (i := ka)
  have kgb := kys_ge (T := T) (ch := chb) (i := kb)
  generalize eKA : kys T cha ka = KA at *
  generalize eKB : kys T chb kb = KB at *
  have fz : ∀ (b : Nat) (ν1 ν2 : MS), FSt τ1 ν1 → FSt τ2 ν2 → UT ν1 → UT ν2 → b ≤ 179400 → EZ t b ν1 → EZ t b ν2 → OuE T FN S w σ1 σ2 ν1 ν2 := fun b ν1 ν2 f1 f2 V1 V2 hb z1 z2 => ⟨t, XC, by omega, OuQ_z (I := fun _ => False) hM (FC_fs f1) (FC_fs f2) V1 V2 hb z1 z2⟩
  -- the last write, pass
  have tenZ : ∀ (ν1 ν2 : MS) (K1 K2 : Nat → Int32), FSt τ1 ν1 → FSt τ2 ν2 → UT ν1 → UT ν2 → EZ t 179400 ν1 → EZ t 179400 ν2 → T2 (fun k => x_takeFrom k 10 K1 ν1) (fun k => x_takeFrom k 10 K2 ν2) (fun r1 r2 => OuE T FN S w σ1 σ2 r1.2 r2.2) := by
    intro ν1 ν2 K1 K2 f1 f2 V1 V2 z1 z2
    refine T2_suc (fun k => by rw [x_takeFrom]) (fun k => by rw [x_takeFrom]) ?_
    refine T2_ob (T2_t (s_writeZ (EZ_le z1)) (s_writeZ (EZ_le z2))) (fun r1 r2 hr => ?_)
    rw [hr.1, hr.2]
    refine T2_ob (T2_t (s_passZ (EZ_e z1)) (s_passZ (EZ_e z2))) (fun r1 r2 hr => ?_)
    rw [hr.1, hr.2]
    exact T2_some (fz 179400 ν1 ν2 f1 f2 V1 V2 (by omega) z1 z2)
  have ten : ∀ (w2 XD TT TP : Nat) (ν1 ν2 : MS) (K1 K2 : Nat → Int32), XD ≤ 401000 → w ≤ w2 → TT < TP → t + KA ≤ TP → TP ≤ 60000 → TP + 9 + KBn T ≤ w2 + 17000 → FSt τ1 ν1 → FSt τ2 ν2 → UT ν1 → UT ν2 → EI TP w2 XD ν1 ν2 → K1 1 = nI n → K2 1 = nI n → K1 2 = nI (cha ka) → K2 2 = nI (cha ka) → K1 4 = nI t → K2 4 = nI t → K1 9 = nI TT → K2 9 = nI TT → T2 (fun k => x_takeFrom k 10 K1 ν1) (fun k => x_takeFrom k 10 K2 ν2) (fun r1 r2 => OuE T FN S w σ1 σ2 r1.2 r2.2) := by
    intro w2 XD TT TP ν1 ν2 K1 K2 hXD hw2 h1 h2 h3 h4 f1 f2 V1 V2 hJ k1 l1 k2 l2 k4 l4 k9 l9
    refine T2_suc (fun k => by rw [x_takeFrom]) (fun k => by rw [x_takeFrom]) ?_
    refine T2_ob (E_write (u := t) (p := TT) (by omega) hTa hNa (by omega) (by omega) h1 (Sc1_fs hSc f1) hJ V1 V2 (by exact k2) (by exact l2) (by exact k4) (by exact l4) (by exact k9) (by exact l9)) (fun r1 r2 hr => ?_)
    obtain ⟨c1, c2, c3, c4, c5⟩ := hr
    have G1 := FS_tr f1 c1
    have G2 := FS_tr f2 c2
    rcases c5 with ⟨w3, hw3, hK⟩ | ⟨z1, z2⟩
    · refine T2_ob (E_pass (t := TP) (w := w3) hW hXD (by omega) (Nat.le_refl _) (Mid_fc (I := fun _ => False) hM (FC_fs G1) (FC_fs G2) hK c3 c4) (Pos_fs hW G1 hP) (by exact k1) (by exact l1)) (fun r1 r2 hr => T2_some ⟨TP, XD, hXD, OuQ_mo hr (by omega)⟩)
    · refine T2_ob (T2_t (s_passZ (EZ_e z1)) (s_passZ (EZ_e z2))) (fun r1 r2 hr => ?_)
      rw [hr.1, hr.2]
      exact T2_some (fz 179301 _ _ G1 G2 c3 c4 (by omega) (EZ_mo z1 (by omega) (Nat.le_refl _)) (EZ_mo z2 (by omega) (Nat.le_refl _)))
  -- with an error
  have twoZ : ∀ (ρ1 ρ2 : MS) (K1 K2 : Nat → Int32), FE τ1 ρ1 → FE τ2 ρ2 → EZ t 179300 ρ1 → EZ t 179300 ρ2 → T2 (fun k => x_takeFrom k 2 K1 ρ1) (fun k => x_takeFrom k 2 K2 ρ2) (fun r1 r2 => OuE T FN S w σ1 σ2 r1.2 r2.2) := by
    intro ρ1 ρ2 K1 K2 f1 f2 z1 z2
    refine T2_suc (fun k => by rw [x_takeFrom]) (fun k => by rw [x_takeFrom]) ?_
    refine T2_ite ⟨fun z => absurd z (EZ_le z1), fun z => absurd z (EZ_le z2)⟩ (fun z _ => absurd z (EZ_le z1)) (fun _ _ => ?_)
    exact T2_some (fz 179300 _ _ (FS_fe f1) (FS_fe f2) (UT_fe f1 U1) (UT_fe f2 U2) (by omega) z1 z2)
  have oneZ : ∀ (ρ1 ρ2 : MS) (K1 K2 : Nat → Int32), FE τ1 ρ1 → FE τ2 ρ2 → EZ t 179300 ρ1 → EZ t 179300 ρ2 → T2 (fun k => x_takeFrom k 1 K1 ρ1) (fun k => x_takeFrom k 1 K2 ρ2) (fun r1 r2 => OuE T FN S w σ1 σ2 r1.2 r2.2) := by
    intro ρ1 ρ2 K1 K2 f1 f2 z1 z2
    refine T2_suc (fun k => by rw [x_takeFrom]) (fun k => by rw [x_takeFrom]) ?_
    refine T2_ite ⟨fun z => absurd z (EZ_e z1), fun z => absurd z (EZ_e z2)⟩ (fun z _ => absurd z (EZ_e z1)) (fun _ _ => ?_)
    exact twoZ ρ1 ρ2 _ _ f1 f2 z1 z2
  -- the member is out
  have nine : ∀ (w2 XD m i p va vb : Nat) (ξ1 ξ2 : MS) (g1 : Nat → Prop) (l1 : List Nat) (D1 h1 X1 : Nat) (g2 : Nat → Prop) (l2 : List Nat) (D2 h2 X2 : Nat) (K1 K2 : Nat → Int32), XD ≤ 401000 → w ≤ w2 → t + KA + KB ≤ m → m ≤ 50000 → m + 3 + 9 + KBn T ≤ w2 + 17000 → FE τ1 ξ1 → FE τ2 ξ2 → EIx (m + 2) w2 XD ξ1 ξ2 g1 l1 D1 h1 X1 g2 l2 D2 h2 X2 → h1 + 20000 ≤ D1 + 870000 → h2 + 20000 ≤ D2 + 870000 → va < 1740000 → vb < 1740000 → ξ1.2.2 29 m = nI va → ξ2.2.2 29 m = nI vb → 4 ≤ kdN (ξ1.2.2 28) va → ξ1.2.2 28 (va + 1) = nI p → p ≤ 3996 → i < p → K1 1 = nI n → K2 1 = nI n → K1 2 = nI (cha ka) → K2 2 = nI (cha ka) → K1 3 = nI (chb kb) → K2 3 = nI (chb kb) → K1 4 = nI t → K2 4 = nI t → K1 5 = nI (t + KA) → K2 5 = nI (t + KA) → K1 6 = nI va → K2 6 = nI vb → K1 9 = nI (m + 1) → K2 9 = nI (m + 1) → K1 10 = nI i → K2 10 = nI i → T2 (fun k => x_takeFrom k 9 K1 ξ1) (fun k => x_takeFrom k 9 K2 ξ2) (fun r1 r2 => OuE T FN S w σ1 σ2 r1.2 r2.2) := by
    intro w2 XD m i p va vb ξ1 ξ2 g1 l1 D1 h1 X1 g2 l2 D2 h2 X2 K1 K2 hXD hw2 hm1 hm2 hm3 f1 f2 hX rm1 rm2 bva bvb pv1 pv2 k4 ln hp hip k1 l1' k2 l2' k3 l3 k4' l4 k5 l5 k6 l6 k9 l9 k10 l10
    have hX0 := hX
    obtain ⟨m1, m2, aR, j1, j2, t1, o1, o2, ww, hww, xx1, xx2, ⟨ty1, ty2⟩, a, z1, z2⟩ := hX
    have t2 : ξ2.1 59 = nI (m + 2) := (aR.2.2.1 59 (by unfold AlS; omega)).symm.trans t1
    obtain ⟨ya, yb, a1, a2, a3, a4, a5, a6, a7⟩ := aR.1 29 m (Or.inl ⟨rfl, by omega⟩) (by unfold VwR; omega)
    have ea : ya = va := (n_eq (by omega) (by omega)).mp (a1.symm.trans pv1)
    have eb : yb = vb := (n_eq (by omega) (by omega)).mp (a3.symm.trans pv2)
    subst ea
    subst eb
    have ga := kdN_ge m1.1 a2 (by omega)
    obtain ⟨kx, p', hO⟩ := OE_of m1.1 m2.1 ga a4 a5
    have hO0 := hO
    obtain ⟨gv1, gv2, o3, o4, o5, o6, o7, o8, o9, o10, o11, o12, o13, o14, o15, o16, o17⟩ := hO0
    have ep : p' = p := (n_eq (by omega) (by omega)).mp (o11.symm.trans ln)
    subst ep
    have P1 : VP g1 l1 D1 h1 (m + 2) ξ1 := ⟨m1.1, t1, by omega, ⟨0, o1, by decide⟩⟩
    have P2 : VP g2 l2 D2 h2 (m + 2) ξ2 := ⟨m2.1, t2, by omega, ⟨0, o2, by decide⟩⟩
    refine T2_suc (fun k => by rw [x_takeFrom]) (fun k => by rw [x_takeFrom]) ?_
    refine T2_ob (E_op hX0 (s_without P1 gv1 k4 o11 (by omega) o6 (by exact k6)) (s_without P2 gv2 (by rw [o8, ← o7]; exact k4) o12 (by omega) o6 (by exact l6)) (fun n => k_without (i := i) m1.1 m2.1 o1 o2 t1 t2 (by omega) (by omega) (by omega) hO (by rw [← o7]; exact k4) hip (by exact k6) (by exact l6) (by exact k10) (fun j hj => ?_)) (fun k => wl_without k _ _ _) (fun k => wl_without k _ _ _) (c := 8600) (by omega)) (fun q1 q2 hq => ?_)
    · by_cases e2 : j = 2
      · rw [e2]
        show K1 10 = K2 10
        rw [k10, l10]
      · rw [upd_other e2, upd_other e2, upd_other (by omega), upd_other (by omega)]
    obtain ⟨u1, u2, u3, u4, u5⟩ := hq
    refine E_ans m1 m2 aR j1 j2 (by omega) ty1 ty2 ⟨a, u4.trans z1, z2⟩ (u4.trans ((aR.2.2.1 95 (by unfold AlS; omega)).trans u5.symm)) u1 u2 u3 (fun v1 v2 h1' h2' hv => ?_)
    have F1 := FE_tr f1 h1'
    have F2 := FE_tr f2 h2'
    have V1 := UT_fe F1 U1
    have V2 := UT_fe F2 U2
    rw [k3, l3, k5, l5, k9, l9, n_add1]
    rcases hv with ⟨w3, hw3, hJ⟩ | ⟨y1, y2⟩
    · refine T2_ob (E_write (u := t + KA) (p := m + 2) (by omega) hTb hNb (by omega) (by omega) (by omega) (Sc1_fs hSc (FS_fe F1)) hJ V1 V2 rfl rfl rfl rfl rfl rfl) (fun r1 r2 hr => ?_)
      obtain ⟨c1, c2, c3, c4, c5⟩ := hr
      rcases c5 with ⟨w4, hw4, hK⟩ | ⟨y1, y2⟩
      · exact ten w4 XD (m + 1) (m + 2 + 1) r1.2 r2.2 _ _ hXD (by omega) (by omega) (by omega) (by omega) (by omega) (FS_tr (FS_fe F1) c1) (FS_tr (FS_fe F2) c2) c3 c4 hK k1 l1' k2 l2' k4' l4 k9 l9
      · exact tenZ r1.2 r2.2 _ _ (FS_tr (FS_fe F1) c1) (FS_tr (FS_fe F2) c2) c3 c4 (EZ_mo y1 (by omega) (by omega)) (EZ_mo y2 (by omega) (by omega))
    · refine T2_ob (T2_t (s_writeZ (EZ_le y1)) (s_writeZ (EZ_le y2))) (fun r1 r2 hr => ?_)
      rw [hr.1, hr.2]
      exact tenZ v1.2 v2.2 _ _ (FS_fe F1) (FS_fe F2) V1 V2 (EZ_mo y1 (by omega) (by omega)) (EZ_mo y2 (by omega) (by omega))
  -- behind the sweep: what is taken
  have six : ∀ (w2 m va vb kx p : Nat) (ξ1 ξ2 : MS) (g1 : Nat → Prop) (l1 : List Nat) (D1 h1 X1 : Nat) (g2 : Nat → Prop) (l2 : List Nat) (D2 h2 X2 : Nat) (K1 K2 : Nat → Int32), w ≤ w2 → t + KA + KB ≤ m → m ≤ 50000 → m + 3 + 9 + KBn T ≤ w2 + 17000 → FE τ1 ξ1 → FE τ2 ξ2 → EIx (m + 1) w2 XC ξ1 ξ2 g1 l1 D1 h1 X1 g2 l2 D2 h2 X2 → h1 + 79900 ≤ D1 + 870000 → h2 + 79900 ≤ D2 + 870000 → ξ1.2.2 29 m = nI va → ξ2.2.2 29 m = nI vb → va < 1740000 → vb < 1740000 → 4 ≤ kx → OE g1 g2 (ξ1.2.2 28) (ξ2.2.2 28) va vb kx p → K1 1 = nI n → K2 1 = nI n → K1 2 = nI (cha ka) → K2 2 = nI (cha ka) → K1 3 = nI (chb kb) → K2 3 = nI (chb kb) → K1 4 = nI t → K2 4 = nI t → K1 5 = nI (t + KA) → K2 5 = nI (t + KA) → K1 6 = nI va → K2 6 = nI vb → T2 (fun k => x_takeFrom k 6 K1 ξ1) (fun k => x_takeFrom k 6 K2 ξ2) (fun r1 r2 => OuE T FN S w σ1 σ2 r1.2 r2.2) := by
    intro w2 m va vb kx p ξ1 ξ2 g1 l1 D1 h1 X1 g2 l2 D2 h2 X2 K1 K2 hw2 hm1 hm2 hm3 f1 f2 hX rm1 rm2 pv1 pv2 bva bvb hk4 hO k1 l1' k2 l2' k3 l3 k4 l4 k5 l5 k6 l6
    have hO0 := hO
    obtain ⟨gv1, gv2, o3, o4, o5, o6, o7, o8, o9, o10, o11, o12, o13, o14, o15, o16, o17⟩ := hO0
    have t1 : ξ1.1 59 = nI (m + 1) := hX.2.2.2.2.2.1
    have t2 : ξ2.1 59 = nI (m + 1) := (hX.2.2.1.2.2.1 59 (by unfold AlS; omega)).symm.trans t1
    have hXp : EIx (m + 2) w2 XC (mPu ξ1 (m + 1) 0) (mPu ξ2 (m + 1) 0) g1 l1 D1 h1 X1 g2 l2 D2 h2 X2 := EIx_pr hX VC_00 ⟨0, rfl, Or.inl (by decide)⟩ ⟨0, rfl, Or.inl (by decide)⟩
    have hXq : EIx (m + 2) w2 (XC + 20) (mPu ξ1 (m + 1) 0) (mPu ξ2 (m + 1) 0) g1 l1 D1 h1 X1 g2 l2 D2 h2 X2 := EIx_xc hXp (by omega) (by omega) (by omega)
    have F1 : FE τ1 (mPu ξ1 (m + 1) 0) := FE_tr f1 FE_pu
    have F2 : FE τ2 (mPu ξ2 (m + 1) 0) := FE_tr f2 FE_pu
    have xb1 := hX.2.2.2.2.2.2.2.2.2.2.1
    have xb2 := hX.2.2.2.2.2.2.2.2.2.2.2.1
    refine T2_suc (fun k => by rw [x_takeFrom]) (fun k => by rw [x_takeFrom]) ?_
    rw [k6, l6, n_add1, n_add1]
    refine T2_chk (n_in (by omega) (by omega)) (n_in (by omega) (by omega)) ?_
    refine T2_ob (T2_t (s_push t1 (by omega) _) (s_push t2 (by omega) _)) (fun r1 r2 hr => ?_)
    rw [hr.1, hr.2, n_cl (p := va + 1) (by omega), n_cl (p := vb + 1) (by omega), o11, o12, t1, t2, k1, l1']
    show T2 (fun k => if nI p ≤ 0 then x_takeFrom k 10 (upd (upd K1 8 (nI p)) 9 (nI (m + 1))) (mPu ξ1 (m + 1) 0) else if ¬ (nI n < 0 ∨ 70000 ≤ (nI n).toNatClampNeg) then (if (mPu ξ1 (m + 1) 0).2.2 7 (nI n).toNatClampNeg = 27 then x_takeFrom k 8 (upd (upd (upd K1 8 (nI p)) 9 (nI (m + 1))) 100 (nI p - 1)) (mPu ξ1 (m + 1) 0) else x_takeFrom k 7 (upd (upd K1 8 (nI p)) 9 (nI (m + 1))) (mPu ξ1 (m + 1) 0)) else none) (fun k => if nI p ≤ 0 then x_takeFrom k 10 (upd (upd K2 8 (nI p)) 9 (nI (m + 1))) (mPu ξ2 (m + 1) 0) else if ¬ (nI n < 0 ∨ 70000 ≤ (nI n).toNatClampNeg) then (if (mPu ξ2 (m + 1) 0).2.2 7 (nI n).toNatClampNeg = 27 then x_takeFrom k 8 (upd (upd (upd K2 8 (nI p)) 9 (nI (m + 1))) 100 (nI p - 1)) (mPu ξ2 (m + 1) 0) else x_takeFrom k 7 (upd (upd K2 8 (nI p)) 9 (nI (m + 1))) (mPu ξ2 (m + 1) 0)) else none) _
    have bU1 := UT_fe F1 U1
    have bU2 := UT_fe F2 U2
    have pq1 : (mPu ξ1 (m + 1) 0).2.2 29 m = nI va := by
      show (mAr ξ1 29 (m + 1) 0).2.2 29 m = _
      rw [mAr_s, upd_other (by omega)]; exact pv1
    have pq2 : (mPu ξ2 (m + 1) 0).2.2 29 m = nI vb := by
      show (mAr ξ2 29 (m + 1) 0).2.2 29 m = _
      rw [mAr_s, upd_other (by omega)]; exact pv2
    have c28 : (mPu ξ1 (m + 1) 0).2.2 28 = ξ1.2.2 28 := mPu_o (by decide)
    have d28 : (mPu ξ2 (m + 1) 0).2.2 28 = ξ2.2.2 28 := mPu_o (by decide)
    have s7 : (mPu ξ1 (m + 1) 0).2.2 7 n = T 7 n := (STb_fe B1.1 F1).1 7 n (by omega) (by omega) (by omega)
    have s7' : (mPu ξ2 (m + 1) 0).2.2 7 n = T 7 n := (STb_fe B2.1 F2).1 7 n (by omega) (by omega) (by omega)
    have p59 : (mPu ξ1 (m + 1) 0).1 59 = nI (m + 2) := rfl
    have q59 : (mPu ξ2 (m + 1) 0).1 59 = nI (m + 2) := rfl
    generalize mPu ξ1 (m + 1) 0 = μ1 at *
    generalize mPu ξ2 (m + 1) 0 = μ2 at *
    -- one member
    have eight : ∀ (i : Nat) (J1 J2 : Nat → Int32), i < p → J1 1 = nI n → J2 1 = nI n → J1 2 = nI (cha ka) → J2 2 = nI (cha ka) → J1 3 = nI (chb kb) → J2 3 = nI (chb kb) → J1 4 = nI t → J2 4 = nI t → J1 5 = nI (t + KA) → J2 5 = nI (t + KA) → J1 6 = nI va → J2 6 = nI vb → J1 9 = nI (m + 1) → J2 9 = nI (m + 1) → J1 100 = nI i → J2 100 = nI i → T2 (fun k => x_takeFrom k 8 J1 μ1) (fun k => x_takeFrom k 8 J2 μ2) (fun r1 r2 => OuE T FN S w σ1 σ2 r1.2 r2.2) := by
      intro i J1 J2 hip j1 i1 j2 i2 j3 i3 j4 i4 j5 i5 j6 i6 j9 i9 j100 i100
      refine T2_suc (fun k => by rw [x_takeFrom]) (fun k => by rw [x_takeFrom]) ?_
      by_cases k5' : 5 ≤ kx
      · refine T2_ob (T2_t (s_memY (σ := μ1) (v := va) (n := p) (kk := kx) (j := i) o13 (by rw [c28]; exact o9) k5' o5.2 hip (by exact j6) (by exact j100)) (s_memY (σ := μ2) (v := vb) (n := p) (kk := kx) (j := i) o14 (by rw [d28]; exact o10) k5' o5.2 hip (by exact i6) (by exact i100))) (fun q1 q2 hq => ?_)
        rw [hq.1, hq.2, j9, i9, j100, i100]
        refine T2_chk (n_in (by omega) (by omega)) (n_in (by omega) (by omega)) ?_
        rw [n_cl (p := m + 1) (by omega)]
        have hD := EIx_dn (u := m + 1) (by omega) hXq
        obtain ⟨xa, xb, q1', q2', _, _, _, q6, q7, q8, _⟩ := Rt_val (k := i) hD (Or.inl ⟨rfl, (by omega : m < m + 1)⟩) (by unfold VwR; omega) pq1 pq2 bva bvb (by show 5 ≤ kdN (μ1.2.2 28) va; rw [c28, o7]; exact k5') (by show μ1.2.2 28 (va + 1) = _; rw [c28]; exact o11) o6 hip
        have q1' : μ1.2.2 28 (va + 4 + i) = nI xa := q1'
        have q2' : μ2.2.2 28 (vb + 4 + i) = nI xb := q2'
        have hN := EIx_pr hD q6 ⟨xa, rfl, q7⟩ ⟨xb, rfl, q8⟩
        rw [mAr_pu p59, mAr_pu q59] at hN
        rw [q1', q2']
        have e1 : (mAr μ1 29 (m + 1) (nI xa)).2.2 28 = ξ1.2.2 28 := (mAr_o (by decide)).trans c28
        refine nine w2 (XC + 20) m i p va vb (mAr μ1 29 (m + 1) (nI xa)) (mAr μ2 29 (m + 1) (nI xb)) g1 l1 D1 h1 X1 g2 l2 D2 h2 X2 _ _ (by omega) hw2 hm1 hm2 hm3 (FE_tr F1 FE_pile) (FE_tr F2 FE_pile) hN (by omega) (by omega) bva bvb ?_ ?_ ?_ ?_ o6 hip j1 i1 j2 i2 j3 i3 j4 i4 j5 i5 j6 i6 j9 i9 rfl rfl
        · rw [mAr_s, upd_other (by omega)]; exact pq1
        · rw [mAr_s, upd_other (by omega)]; exact pq2
        · rw [e1, o7]; omega
        · rw [e1]; exact o11
      · have k4e : kx = 4 := by omega
        subst k4e
        obtain ⟨ee1, ee2⟩ := EI_e ⟨g1, l1, D1, h1, X1, g2, l2, D2, h2, X2, hXq⟩
        have P1 : VP g1 l1 D1 h1 (m + 2) μ1 := ⟨hXq.1.1, p59, by omega, ⟨0, ee1, by decide⟩⟩
        have P2 : VP g2 l2 D2 h2 (m + 2) μ2 := ⟨hXq.2.1.1, q59, by omega, ⟨0, ee2, by decide⟩⟩
        have hO2 : OE g1 g2 (μ1.2.2 28) (μ2.2.2 28) va vb 4 p := by rw [c28, d28]; exact hO
        refine T2_ob (T2_of (Tm_and (s_memberAt (v := va) (n := p) (i := i) P1 gv1 (by rw [c28, o7]; exact hk4) (by rw [c28]; exact o11) hip o6 (by exact j6) (by exact j100)) (s_memX (v := va) (n := p) (j := i) hXq.1.1 (by omega) ee1 o13 (by rw [c28]; exact o9) hip (by exact j6) (by exact j100))) (Tm_and (s_memberAt (v := vb) (n := p) (i := i) P2 gv2 (by rw [d28, o8]; exact hk4) (by rw [d28]; exact o12) hip o6 (by exact i6) (by exact i100)) (s_memX (v := vb) (n := p) (j := i) hXq.2.1.1 (by omega) ee2 o14 (by rw [d28]; exact o10) hip (by exact i6) (by exact i100))) (fun n' => Pm_wl (fun k => wl_memberAt k _ _ _) (fun k => wl_memberAt k _ _ _) (k_memberAt hXq.1.1 hXq.2.1.1 ee1 ee2 (by omega) (by omega) hO2 (by omega) hip (by exact j6) (by exact j100) (by exact i6) (by exact i100)))) (fun u1 u2 hu => ?_)
        obtain ⟨⟨kq, wl1, wl2⟩, ⟨ya, xa1, xa2, xa3, xa4⟩, ⟨yb, xc1, xc2, xc3, xc4⟩⟩ := hu
        obtain ⟨gC, lC, hC', gD, lD, hD', p1', p2', p3', p4', p5'', p6', p7', p8', p9', p10'⟩ := KQ_gr (by omega) hXq.1.1 hXq.2.1.1 ya yb kq xa2
        obtain ⟨q1', q2', q3'⟩ := RA_gr hXq.1 hXq.2.1 hXq.2.2.1 p1' p2' p3' p4' (p5''.trans p6'.symm) (by rw [wl1, wl2]; exact hXq.2.2.1.2.2.2)
        have eo1 := (MI_gr hXq.1 p1' p3').2
        have eo2 := (MI_gr hXq.2.1 p2' p4').2
        have H1 : FE μ1 u1.2 := FE_eo hXq.1.2.1 eo1
        have H2 : FE μ2 u2.2 := FE_eo hXq.2.1.2.1 eo2
        obtain ⟨_, _, _, i1', i2', _, _, _, w57, hw', x1', x2', ⟨ty1', ty2'⟩, c95', b95', b95''⟩ := id hXq
        have hX3 : EIx (m + 2) w2 (XC + 20) u1.2 u2.2 gC lC D1 hC' X1 gD lD D2 hD' X2 := ⟨q1', q2', q3', IT_eo hXq.1.2.1 hXq.1.1 (Or.inr ⟨D1, hC', p1'.1⟩) eo1 i1', IT_eo hXq.2.1.2.1 hXq.2.1.1 (Or.inr ⟨D2, hD', p2'.1⟩) eo2 i2', p5'', xa2, xc2, (p3'.1 57 (by decide)).trans w57, ⟨hw'.1, by omega, by omega⟩, x1', x2', ⟨by rw [H1.2.2.1]; exact ty1', by rw [H1.2.2.1, H2.2.2.1]; exact ty2'⟩, c95', (p3'.1 95 (by decide)).trans b95', b95''⟩
        have bh1 := HS_b hXq.1.1
        have bh2 := HS_b hXq.2.1.1
        rw [xa1, xc1] at p8'
        obtain ⟨_, _, _, wb1, wb2, _⟩ := ob_at hXq.1.1 gv1
        obtain ⟨_, _, _, wc1, wc2, _⟩ := ob_at hXq.2.1.1 gv2
        have gm1 : gC h1 := by
          obtain ⟨z1, z2, c1, c2, c3, c4, c5, c6, c7⟩ := p8'
          have ea : h1 = z1 := (n_eq (by omega) (by omega)).mp c1
          rw [ea]
          exact c2.resolve_left (by omega)
        have gm2 : gD h2 := by
          obtain ⟨z1, z2, c1, c2, c3, c4, c5, c6, c7⟩ := p8'
          have ea : h2 = z2 := (n_eq (by omega) (by omega)).mp c3
          rw [ea]
          exact c4.resolve_left (by omega)
        have hDn := EIx_dn (u := m + 1) (by omega) hX3
        have sz1 : szN (u1.2.2.2 28) h1 = 2 := sz_ch hX3.1.1 gm1 xa3 xa4
        have sz2 : szN (u2.2.2.2 28) h2 = 2 := sz_ch hX3.2.1.1 gm2 xc3 xc4
        have mp1 := MI_pu hDn.1 (Or.inr gm1)
        have mp2 := MI_pu hDn.2.1 (Or.inr gm2)
        have hN := EIx_pu hDn p8' mp1 mp2 (by show X1 + 6 * szN (u1.2.2.2 28) h1 ≤ _; rw [sz1]; omega) (by show X2 + 6 * szN (u2.2.2.2 28) h2 ≤ _; rw [sz2]; omega)
        rw [mAr_pu p5'', mAr_pu p6'] at hN
        rw [xa1, xc1, j9, i9, j100, i100]
        refine T2_chk (n_in (by omega) (by omega)) (n_in (by omega) (by omega)) ?_
        rw [n_cl (p := m + 1) (by omega)]
        have old1 : ∀ j, D1 + 4 ≤ j → j < h1 → u1.2.2.2 28 j = μ1.2.2 28 j := p1'.2.2.2
        have e1 : (mAr u1.2 29 (m + 1) (nI h1)).2.2 28 = u1.2.2.2 28 := mAr_o (by decide)
        have kdv : kdN (u1.2.2.2 28) va = 4 := by
          have eo := eo1.1 29 m (Or.inl ⟨rfl, by omega⟩)
          obtain ⟨z1, z2, c1, c2, c3, c4, c5, c6, c7⟩ := eo
          have ea : z1 = va := (n_eq (by omega) (by omega)).mp (c1.symm.trans pq1)
          have eb : z2 = va := (n_eq (by omega) (by omega)).mp (c3.symm.trans ((p3'.2.2 m (by omega)).trans pq1))
          rw [ea, eb] at c5
          rw [(EVb_sz c5).2.2, c28]; exact o7
        refine nine w2 (XC + 20) m i p va vb (mAr u1.2 29 (m + 1) (nI h1)) (mAr u2.2 29 (m + 1) (nI h2)) gC lC D1 hC' _ gD lD D2 hD' _ _ _ (by omega) hw2 hm1 hm2 hm3 (FE_tr F1 (FE_tr H1 FE_pile)) (FE_tr F2 (FE_tr H2 FE_pile)) hN (by omega) (by omega) bva bvb ?_ ?_ ?_ ?_ o6 hip j1 i1 j2 i2 j3 i3 j4 i4 j5 i5 j6 i6 j9 i9 rfl rfl
        · rw [mAr_s, upd_other (by omega), p3'.2.2 m (by omega)]; exact pq1
        · rw [mAr_s, upd_other (by omega), p4'.2.2 m (by omega)]; exact pq2
        · rw [e1, kdv]; omega
        · rw [e1, old1 (va + 1) (by omega) (by omega), c28]; exact o11
    refine T2_ite Iff.rfl (fun _ _ => ?_) (fun z _ => ?_)
    · exact ten w2 (XC + 20) (m + 1) (m + 2) μ1 μ2 _ _ (by omega) hw2 (by omega) (by omega) (by omega) (by omega) (FS_fe F1) (FS_fe F2) bU1 bU2 ⟨g1, l1, D1, h1, X1, g2, l2, D2, h2, X2, hXq⟩ k1 l1' k2 l2' k4 l4 rfl rfl
    · have pp : 1 ≤ p := by
        have : ¬ p = 0 := fun e => z (by rw [e]; decide)
        omega
      refine T2_chk (n_in (by omega) (by omega)) (n_in (by omega) (by omega)) ?_
      rw [n_cl (p := n) (by omega), s7, s7']
      refine T2_ite Iff.rfl (fun _ _ => ?_) (fun _ _ => ?_)
      · have e1 : nI p - 1 = nI (p - 1) := n_sub (p := p) (q := 1) (by omega) (by omega)
        rw [e1]
        exact eight (p - 1) _ _ (by omega) k1 l1' k2 l2' k3 l3 k4 l4 k5 l5 k6 l6 rfl rfl rfl rfl
      · refine T2_suc (fun k => by rw [x_takeFrom]) (fun k => by rw [x_takeFrom]) ?_
        exact eight 0 _ _ (by omega) k1 l1' k2 l2' k3 l3 k4 l4 k5 l5 k6 l6 rfl rfl rfl rfl
  -- the targets' keys, what is read
  have one : ∀ (w3 : Nat) (ρ1 ρ2 : MS) (J1 J2 : Nat → Int32), w' ≤ w3 → FE τ1 ρ1 → FE τ2 ρ2 → EI (t + KA + KB) w3 XC ρ1 ρ2 → J1 1 = nI n → J2 1 = nI n → J1 2 = nI (cha ka) → J2 2 = nI (cha ka) → J1 3 = nI (chb kb) → J2 3 = nI (chb kb) → J1 4 = nI t → J2 4 = nI t → J1 5 = nI (t + KA) → J2 5 = nI (t + KA) → T2 (fun k => x_takeFrom k 1 J1 ρ1) (fun k => x_takeFrom k 1 J2 ρ2) (fun r1 r2 => OuE T FN S w σ1 σ2 r1.2 r2.2) := by
    intro w3 ρ1 ρ2 J1 J2 hw3 F1 F2 hK j1 i1 j2 i2 j3 i3 j4 i4 j5 i5
    obtain ⟨x1, x2⟩ := EI_e hK
    refine T2_suc (fun k => by rw [x_takeFrom]) (fun k => by rw [x_takeFrom]) ?_
    rw [x1, x2]
    refine T2_ite Iff.rfl (fun _ _ => ?_) (fun z _ => absurd rfl z)
    refine T2_ob (E_readParts (u := t + KA) (fl := 1) (by omega) hTb (by omega) (by omega) (Sc0_fe hSc.1 F1) hK (by exact j3) (by exact i3) (by exact j5) (by exact i5) rfl rfl) (fun v1 v2 hv => ?_)
    obtain ⟨h1, h2, hv⟩ := hv
    rw [if_neg (by decide : ¬ (1 : Int32) = 0)] at hv
    have G1 := FE_tr F1 h1
    have G2 := FE_tr F2 h2
    rcases hv with ⟨w4, hw4, hU⟩ | ⟨z1, z2⟩
    case inr => exact twoZ _ _ _ _ G1 G2 (EZ_mo z1 (by omega) (Nat.le_refl _)) (EZ_mo z2 (by omega) (Nat.le_refl _))
    rw [show t + KA + KB + 1 + kb = (t + KA + KB + kb) + 1 by omega] at hU
    obtain ⟨m, hm⟩ : ∃ m, m = t + KA + KB + kb := ⟨_, rfl⟩
    rw [← hm] at hU
    obtain ⟨y1, y2⟩ := EI_e hU
    refine T2_suc (fun k => by rw [x_takeFrom]) (fun k => by rw [x_takeFrom]) ?_
    rw [y1, y2]
    refine T2_ite Iff.rfl (fun _ _ => ?_) (fun z _ => absurd (by decide) z)
    refine T2_suc (fun k => by rw [x_takeFrom]) (fun k => by rw [x_takeFrom]) ?_
    refine T2_ob (E_sw (by omega) (by omega) hU) (fun a b hab => ?_)
    obtain ⟨f1, f2, g1, l1, D1, hh1, X1, g2, l2, D2, hh2, X2, hX, rm1, rm2⟩ := hab
    have H1 := FE_tr G1 f1
    have H2 := FE_tr G2 f2
    have t1 : a.2.1 59 = nI (m + 1) := hX.2.2.2.2.2.1
    have t2 : b.2.1 59 = nI (m + 1) := (hX.2.2.1.2.2.1 59 (by unfold AlS; omega)).symm.trans t1
    obtain ⟨va, vb, a1, a2, a3, a4, a5, a6, a7⟩ := hX.2.2.1.1 29 m (Or.inl ⟨rfl, by omega⟩) (by unfold VwR; omega)
    have k6 := kdN_6 hX.1.1 a2
    have hXe : EI (m + 1) w4 XC a.2 b.2 := ⟨g1, l1, D1, hh1, X1, g2, l2, D2, hh2, X2, hX⟩
    rw [t1, t2, n_sub1 (by omega)]
    refine T2_chk (n_in (by omega) (by omega)) (n_in (by omega) (by omega)) ?_
    rw [n_cl (p := m) (by omega), a1, a3]
    refine T2_ob (T2_t (s_kind hX.1.1 a2 rfl) (s_kind hX.2.1.1 a4 rfl)) (fun c d hcd => ?_)
    rw [hcd.1, hcd.2, (EVb_sz a5).2.2, j1, i1]
    refine T2_chk (n_in (by omega) (by omega)) (n_in (by omega) (by omega)) ?_
    rw [n_cl (p := n) (by omega)]
    show T2 (fun k => if a.2.2.2 7 n = 25 then _ else _) (fun k => if b.2.2.2 7 n = 25 then _ else _) _
    rw [(STb_fe B1.1 H1).1 7 _ (by omega) (by omega) (by omega), (STb_fe B2.1 H2).1 7 _ (by omega) (by omega) (by omega)]
    -- the fault, the good kinds
    have five : ∀ (M1 M2 : Nat → Int32), T2 (fun k => x_takeFrom k 5 M1 a.2) (fun k => x_takeFrom k 5 M2 b.2) (fun r1 r2 => OuE T FN S w σ1 σ2 r1.2 r2.2) := by
      intro M1 M2
      refine T2_suc (fun k => by rw [x_takeFrom]) (fun k => by rw [x_takeFrom]) ?_
      refine T2_ob (T2_t (s_fail _ _) (s_fail _ _)) (fun y z hy => ?_)
      rw [hy.1, hy.2]
      obtain ⟨z1, z2⟩ := E_er (a := t) (b := 179300) (e := 1) (by omega) hXe (by omega) (by decide) (by omega) (by omega)
      exact T2_some (fz 179300 _ _ (FS_tr (FS_fe H1) (FS_fe FE_er)) (FS_tr (FS_fe H2) (FS_fe FE_er)) (UT_fe FE_er (UT_fe H1 U1)) (UT_fe FE_er (UT_fe H2 U2)) (by omega) z1 z2)
    have good : ∀ (M1 M2 : Nat → Int32), 4 ≤ kdN (a.2.2.2 28) va → (∀ i, i ≠ 6 → i ≠ 7 → M1 i = J1 i) → (∀ i, i ≠ 6 → i ≠ 7 → M2 i = J2 i) → M1 6 = nI va → M2 6 = nI vb → T2 (fun k => x_takeFrom k 6 M1 a.2) (fun k => x_takeFrom k 6 M2 b.2) (fun r1 r2 => OuE T FN S w σ1 σ2 r1.2 r2.2) := by
      intro M1 M2 hk o1 o2 m6 n6
      have ga := kdN_ge hX.1.1 a2 (by omega)
      obtain ⟨kx, p, hO⟩ := OE_of hX.1.1 hX.2.1.1 ga a4 a5
      exact six w4 m va vb kx p a.2 b.2 g1 l1 D1 hh1 X1 g2 l2 D2 hh2 X2 M1 M2 (by omega) (by omega) (by omega) (by omega) H1 H2 hX rm1 rm2 a1 a3 a6 a7 (by rw [← hO.2.2.2.2.2.2.1]; exact hk) hO ((o1 1 (by decide) (by decide)).trans j1) ((o2 1 (by decide) (by decide)).trans i1) ((o1 2 (by decide) (by decide)).trans j2) ((o2 2 (by decide) (by decide)).trans i2) ((o1 3 (by decide) (by decide)).trans j3) ((o2 3 (by decide) (by decide)).trans i3) ((o1 4 (by decide) (by decide)).trans j4) ((o2 4 (by decide) (by decide)).trans i4) ((o1 5 (by decide) (by decide)).trans j5) ((o2 5 (by decide) (by decide)).trans i5) m6 n6
    have oo : ∀ (J : Nat → Int32) (x y : Int32) i, i ≠ 6 → i ≠ 7 → upd (upd J 6 x) 7 y i = J i := fun J x y i h6 h7 => by rw [upd_other h7, upd_other h6]
    refine T2_ite Iff.rfl (fun _ _ => ?_) (fun _ _ => ?_)
    · refine T2_ite Iff.rfl (fun z _ => ?_) (fun _ _ => five _ _)
      have z6 : kdN (a.2.2.2 28) va = 6 := (n_eq (q := 6) (by omega) (by decide)).mp z
      exact good _ _ (by omega) (oo _ _ _) (oo _ _ _) rfl rfl
    · refine T2_suc (fun k => by rw [x_takeFrom]) (fun k => by rw [x_takeFrom]) ?_
      show T2 (fun k => if nI (kdN (a.2.2.2 28) va) = 4 then _ else _) (fun k => if nI (kdN (a.2.2.2 28) va) = 4 then _ else _) _
      refine T2_ite Iff.rfl (fun z _ => ?_) (fun _ _ => ?_)
      · have z4 : kdN (a.2.2.2 28) va = 4 := (n_eq (q := 4) (by omega) (by decide)).mp z
        exact good _ _ (by omega) (oo _ _ _) (oo _ _ _) rfl rfl
      · show T2 (fun k => if nI (kdN (a.2.2.2 28) va) = 5 then _ else _) (fun k => if nI (kdN (a.2.2.2 28) va) = 5 then _ else _) _
        refine T2_ite Iff.rfl (fun z _ => ?_) (fun _ _ => five _ _)
        have z5 : kdN (a.2.2.2 28) va = 5 := (n_eq (q := 5) (by omega) (by decide)).mp z
        exact good _ _ (by omega) (oo _ _ _) (oo _ _ _) rfl rfl
  refine T2_suc (fun k => by rw [x_takeFrom]) (fun k => by rw [x_takeFrom]) ?_
  rw [d1, d2]
  refine T2_chk (n_in (by omega) (by omega)) (n_in (by omega) (by omega)) ?_
  refine T2_chk (n_in (by omega) (by omega)) (n_in (by omega) (by omega)) ?_
  rw [n_cl (p := n) (by omega), B1.1.1 5 _ (by omega) (by omega) (by omega), B2.1.1 5 _ (by omega) (by omega) (by omega), B1.1.1 6 _ (by omega) (by omega) (by omega), B2.1.1 6 _ (by omega) (by omega) (by omega), x5, x6, s1, s2]
  refine T2_ob (E_workParts (by omega) hTa (by omega) hSc.1 hE rfl rfl) (fun r1 r2 hr => ?_)
  obtain ⟨f1, f2, hr⟩ := hr
  rw [eKA] at hr
  rcases hr with ⟨w2, hw2, hJ⟩ | ⟨z1, z2⟩
  case inr =>
    refine T2_ite ⟨fun z => absurd z (EZ_e z1), fun z => absurd z (EZ_e z2)⟩ (fun z _ => absurd z (EZ_e z1)) (fun _ _ => ?_)
    exact oneZ _ _ _ _ f1 f2 z1 z2
  obtain ⟨e1, e2⟩ := EI_e hJ
  obtain ⟨p1, p2⟩ := EI_59 hJ
  rw [e1, e2, p1, p2]
  refine T2_ite Iff.rfl (fun _ _ => ?_) (fun z _ => absurd rfl z)
  refine T2_ob (E_workParts (by omega) hTb (by omega) (Sc0_fe hSc.1 f1) hJ rfl rfl) (fun q1 q2 hq => ?_)
  obtain ⟨j1, j2, hq⟩ := hq
  rw [eKB] at hq
  have F1 := FE_tr f1 j1
  have F2 := FE_tr f2 j2
  rcases hq with ⟨w3, hw3, hK⟩ | ⟨z1, z2⟩
  · exact one w3 _ _ _ _ (by omega) F1 F2 hK d1 d2 rfl rfl rfl rfl rfl rfl rfl rfl
  · exact oneZ _ _ _ _ F1 F2 (EZ_mo z1 (by omega) (Nat.le_refl _)) (EZ_mo z2 (by omega) (Nat.le_refl _))
end TKF
