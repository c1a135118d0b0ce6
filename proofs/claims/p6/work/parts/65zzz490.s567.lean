/-! The house: work, on both sides. -/
section DZP
variable {σ s s1 : CS} {τ : MS} {b : Bool} {N M n sz sz' V j : Nat} {c c' : Ct} {gl : List Gn} {pr : Nat → Nat} {XE : XEt}
def WkQ (j : Nat) (σ : CS) (τ : MS) (r : RS) : Prop := (r.1.1 = 0 ∨ r.1.1 = 2) ∧ r.2.2.1 + PhC r.2.1 ≤ PhC σ + 2 ∧ r.2.2.2 + PhS r.2.1 ≤ PhS σ + 12 ∧ Tm (fun k => x_work k 0 (fun _ => 0) (fun _ => 0) τ) (fun q => IB (j + 1) r.2.1 q.2 ∧ True)
theorem hp_work (hj : j < 512) : cPr j (fun x => x = 0 ∨ x = 2) (fun σ k => f_X11_work k 0 lZ σ) (fun τ k => x_work k 0 (fun _ => 0) (fun _ => 0) τ) (fun _ _ => True) := by
  intro σ τ h
  have h0 := h
  obtain ⟨XE, ic, rf, tr, e10, e11, e13⟩ := h
  show Tm (fun k => f_X11_work k 0 lZ σ) (WkQ j σ τ)
  have ref := rj_work (L := fun _ => 0) (J := fun _ => 0) rf
  refine Tm_suc (fun k => by rw [f_X11_work]) ?_
  refine Tm_wr (fun z => ?_) (fun nz => ?_)
  · exact ⟨Or.inr rfl, by show 1 + PhC σ ≤ _; omega, by show 6 + PhS σ ≤ _; omega, IB_k2 (gM := fun k => x_work k 0 (fun _ => 0) (fun _ => 0) τ) h0 hj (fun XE rf => Tm_mono (rj_work rf) (fun r w => ⟨w.1, w.2.2.1 (e11.1 z)⟩))⟩
  have n112 : ¬ τ.1 112 = 0 := fun z => nz (e11.2 z)
  obtain ⟨n, sz, ⟨t1, t2, t3, t4⟩, ⟨p1, p2, p3, p4, p5, p6⟩, ⟨q1, q2, q3⟩, ⟨m1, m2⟩, pp⟩ := ic
  obtain ⟨k0, gl, pr, cc, hX, pg, k4⟩ := pp.resolve_left (fun z => nz z.2.1)
  obtain ⟨y1, y2, y3⟩ := k4 nz
  obtain ⟨E, nu, vg, e0, MD, ⟨e1, e2⟩, ⟨tb, de⟩, ⟨ut, r18⟩, pgt, ⟨eN, hc⟩, en, vw⟩ := pg
  subst e1
  subst e2
  have fn := fP_ns (sCur σ)
  have fc1 := fP_c (sCur σ) 1
  have fc2 := fP_c (sCur σ) 2
  have fc11 := fP_c (sCur σ) 11
  have fc19 := fP_c (sCur σ) 19
  have p13 := pR_13 (sCur σ)
  have nu40 := de.2.1.2.2.1
  have vg60 := de.2.1.2.1
  obtain ⟨x, hG⟩ := gX_tot (T := τ.2.2 3) (n := n) (E.1, [], [], 42, false, decide ((1 : Nat) = 1), E.2.2.2.2.2.2) ((1, 0, fun _ _ => 0, fun _ => 0, fun _ => 0) : BT) (Nat.le_refl _)
  have re := c_readExp (b := sCur σ) (N := sz) (ρ := τ) (al := 1) (L := lI (lB lZ 1 (sCur σ)) 2 1) t1 t2 (by omega) t4 tr p5 p3 tb de pgt.2.2 ut (by omega) rfl rfl (by omega) hG
  refine Tm_oxc re (fun r z => z.1) (fun r1 z1 => ?_)
  obtain ⟨z1, z2, rx, z11, zn, zy⟩ := z1
  rw [Nat.zero_add, Nat.zero_add] at z2
  show Tm (fun k => f_X11_work k 1 (lI (lI lZ 1 (σ.1 (fP (sCur σ) 1))) 2 r1.1.2) (uI (uI (uI r1.2.1 3701 0) 7512 ((uI r1.2.1 3701 0).1 4006)) 7519 0)) _
  rw [p5.1]
  generalize hs2 : uI (uI (uI r1.2.1 3701 0) 7512 ((uI r1.2.1 3701 0).1 4006)) 7519 0 = s2
  have vr2 : VwZ r1.2.1 s2 := by
    rw [← hs2]
    exact ⟨fun j hj => by rw [uI_o (by omega), uI_o (by omega), uI_o (by omega)], rfl, fun _ _ => rfl, rfl⟩
  have r2 : ∀ k, s2.2.2.1 k = r1.2.1.2.2.1 k := fun k => by rw [← hs2]; rfl
  have f37 : s2.1 3701 = 0 := by rw [← hs2, uI_o (by decide), uI_o (by decide), uI_s]
  have f13 : s2.1 7513 = σ.1 7513 := by
    rw [← hs2, uI_o (by decide), uI_o (by decide), uI_o (by decide)]
    exact rx.1.1 7513 (by omega)
  have ph2 := Ph_s (σ := r1.2.1) (σ' := s2) (by rw [← hs2]; rfl)
  clear hs2
  have ff : ∀ i, i = 7510 ∨ i = 7511 → r1.2.1.1 i = σ.1 i := fun i hi => rx.1.1 i (by omega)
  have r64 : s2.2.2.1 64 = σ.2.2.1 64 := (r2 64).trans (rx.2.1.1 64 (by omega))
  have r67 : s2.2.2.1 67 = σ.2.2.1 67 := (r2 67).trans (rx.2.1.1 67 (by omega))
  -- the same with the code's end as before
  have rx' : RxF (sCur σ) sz (tbE 0 E).length n σ (uI r1.2.1 (fP (sCur σ) 1) (nI sz)) := RxF_u rx (fun j hj => uI_o (by omega)) rfl
  have vr' : VwZ (uI r1.2.1 (fP (sCur σ) 1) (nI sz)) (uI s2 (fP (sCur σ) 1) (nI sz)) := by
    refine ⟨fun j hj => ?_, vr2.2.1, vr2.2.2.1, vr2.2.2.2⟩
    by_cases e : j = fP (sCur σ) 1
    · rw [e, uI_s, uI_s]
    · rw [uI_o e, uI_o e]; exact vr2.1 j hj
  have z11' : (uI r1.2.1 (fP (sCur σ) 1) (nI sz)).1 (fP (sCur σ) 11) = nI (tbE 0 E).length := by rw [uI_o (by omega)]; exact z11
  have f37' : (uI s2 (fP (sCur σ) 1) (nI sz)).1 3701 = 0 := by rw [uI_o (by omega)]; exact f37
  have f13' : (uI s2 (fP (sCur σ) 1) (nI sz)).1 7513 = σ.1 7513 := by rw [uI_o (by omega)]; exact f13
  have pg' : PgI E.1 E.2.2.2.2.2.2 (sCur σ) sz (uN ((uI s2 (fP (sCur σ) 1) (nI sz)).1 7513)) cc (uI s2 (fP (sCur σ) 1) (nI sz)) := vr_pg rx' vr' z11' r64 tb de ut r18 pgt eN hc en (by rw [f13']; exact vw)
  have cd' : CdL (sCur σ) sz (uI s2 (fP (sCur σ) 1) (nI sz)) := by
    obtain ⟨_, e2⟩ := vr_cd rx' vr'
    exact ⟨uI_s, by rw [e2]; exact rx'.2.2.2.2.2.2.1.1, by rw [e2, vr_n vr']; exact rx'.2.2.2.2.2.2.1.2⟩
  -- the reference
  have fin : ∀ r : RS, r.1.1 = 0 → IC XE (j + 1) r.2.1 → r.2.1.1 3701 = 0 → (∀ i, i = 7510 ∨ i = 7511 ∨ i = 7513 → r.2.1.1 i = σ.1 i) → r.2.2.1 + PhC r.2.1 ≤ PhC σ + 2 → r.2.2.2 + PhS r.2.1 ≤ PhS σ + 12 → WkQ j σ τ r := fun r a1 a2 a3 a4 a5 a6 => by
    refine ⟨Or.inl a1, a5, a6, Tm_mono ref (fun q w => ⟨?_, trivial⟩)⟩
    obtain ⟨w1, ⟨w2, w3, w4⟩, _, w5⟩ := w
    exact ⟨XE, a2, w1, tRel_0 a3 (w5 n112), by rw [a4 7510 (by omega), w3]; exact e10, by rw [a4 7511 (by omega), w4]; exact e11, by rw [a4 7513 (by omega), w2]; exact e13⟩
  cases x with
  | none =>
    obtain ⟨u1, u2⟩ := zn rfl
    refine Tm_suc (fun k => by rw [f_X11_work]) ?_
    refine Tm_yes (lI_same.trans u1) ?_
    have cd2 : CdL (sCur σ) sz s2 := by
      obtain ⟨_, e2⟩ := vr_cd rx vr2
      exact ⟨by rw [vr2.1 _ (by omega)]; exact u2, by rw [e2]; exact rx.2.2.2.2.2.2.1.1, by rw [e2, vr_n vr2]; exact rx.2.2.2.2.2.2.1.2⟩
    have pg2 : PgI E.1 E.2.2.2.2.2.2 (sCur σ) sz (uN (s2.1 7513)) cc s2 := vr_pg rx vr2 z11 r64 tb de ut r18 pgt eN hc en (by rw [f13]; exact vw)
    have ic2 : IC XE (j + 1) s2 := IC_cl t3 t4 p1 p2 p4 p6 q1 q2 m1 m2 k0 hX k4 hj rx vr2 f37 (fun g hg => by rw [r67]; exact hg) (by rw [f13]; exact q3) cd2 (by omega) rfl (fun _ _ z => z) pg2
    refine Tm_some (fin _ rfl ic2 f37 (fun i hi => ?_) (by show r1.2.2.1 + 0 + PhC s2 ≤ _; omega) (by show r1.2.2.2 + 0 + PhS s2 ≤ _; omega))
    show s2.1 i = σ.1 i
    rcases hi with rfl | rfl | rfl
    · rw [vr2.1 7510 (by decide)]; exact ff 7510 (by omega)
    · rw [vr2.1 7511 (by decide)]; exact ff 7511 (by omega)
    · exact f13
  | some t =>
    obtain ⟨u1, cs, cd2, u3, u4, sg, ln⟩ := zy t rfl
    refine Tm_suc (fun k => by rw [f_X11_work]) ?_
    refine Tm_no (by rw [lI_same, u1]; decide) ?_
    refine Tm_suc (fun k => by rw [f_X11_work]) ?_
    have icS : IC XE j (uI s2 (fP (sCur σ) 1) (nI sz)) := IC_cl0 t3 t4 p1 p2 p4 p6 q1 q2 m1 m2 k0 hX k4 hj rx' vr' f37' (fun g hg => by rw [show (uI s2 (fP (sCur σ) 1) (nI sz)).2.2.1 67 = σ.2.2.1 67 from r67]; exact hg) (by rw [f13']; exact q3) cd' (by omega) rfl (fun _ _ z => z) pg'
    obtain ⟨ec, e2⟩ := vr_cd rx vr2
    have l36 : sz + cs.length + 1 ≤ 36864 := by omega
    obtain ⟨D, pgt', hD, dd, dd2⟩ := Un_v (C := cdr (sCur σ) s2) pgt nu40 (Nat.zero_le _) sg (by rw [eN]; exact l36) (by rw [eN]; exact fun i hi => (ec i).trans ((rx.2.2.2.2.2.1 i hi).1.trans (hc i hi))) (by rw [eN]; exact fun i hi => (ec _).trans (u3 i hi)) (by rw [eN]; exact (ec _).trans u4)
    rw [eN] at pgt' hD dd2
    have z0 := vr_0 rx vr2 p2 (sCur σ)
    have ck0 : CkA (cM cc (sCur σ) s2) := ck_M (σ := uI s2 (fP (sCur σ) 1) (nI sz)) pg' cd' z0.1
    obtain ⟨ck, up, dn⟩ := ck_R (C := cdr (sCur σ) s2) (M := sz + cs.length + 1) (D := D) ck0 pgt eN (vr_ut rx vr2 nu40 ut) ((vr_18 rx vr2).trans r18) vg60 nu40 pgt' (fun i hi => rfl) (by rw [e2]; exact cd2.2.1) z0.1 dd dd2
    have px := vr_x rx vr2
    have by2 := vr_by rx vr2 m2
    have sp2 : sPr s2 = sPr σ := by show s2.2.2.2.2.2.1.2.2.1 = _; rw [vr2.2.2.2]; exact rx.2.2.1.1.2.2
    have sc2 : sCur s2 = sCur σ := by show s2.2.2.2.2.2.1.1 = _; rw [vr2.2.2.2]; exact rx.2.2.1.1.1
    obtain ⟨g0, l0, t0, mg⟩ := Mst_G y2
    have mg2 := MsG_xx (vr_ct (c := cc) (c' := mkc cc (cdr (sCur σ) s2) (sz + cs.length + 1) (rsD sz D)) rx vr2 (p2 _).1 (p2 _).2 rfl up) px (ct_M (sp2.trans y1)) by2 (by rw [r67]; exact (MsG_v mg).2) mg
    have env : EnV (cM (mkc cc (cdr (sCur σ) s2) (sz + cs.length + 1) (rsD sz D)) (sCur σ) s2) (uN (nI sz)) := by
      refine ⟨by show uN (s2.2.2.1 (pR18 (sCur σ)) 41) = 0; rw [z0.1]; rfl, RK, Nat.le_refl _, ?_⟩
      rw [u_n (by omega)]
      exact rsD_2 hD (Or.inl rfl)
    refine Tm_oxc (c_evaluate (L := lI lZ 1 (nI sz)) (Mst_of mg2) ck env) (fun r z => z.1) (fun r3 z3 => ?_)
    obtain ⟨v1, v2, v3, v4, g, l, t', mg3, gw⟩ := z3
    have hn3 := HfN_m v4
    have sc3 : sCur r3.2.1 = sCur σ := hn3.2.2.2.1.trans sc2
    show Tm (fun k => op (y_X11_isError k 0 (lI lZ 0 r3.1.2) (uI (uI r3.2.1 (fP (sCur r3.2.1) 1) (nI sz)) 7519 ((uI r3.2.1 (fP (sCur r3.2.1) 1) (nI sz)).1 1819))) (fun r2 => f_X11_work k 3 (lI (lI (lI (lI lZ 1 (nI sz)) 2 r1.1.2) 3 r3.1.2) 100 r2.1) r2.2)) _
    rw [sc3]
    generalize hs5 : uI (uI r3.2.1 (fP (sCur σ) 1) (nI sz)) 7519 ((uI r3.2.1 (fP (sCur σ) 1) (nI sz)).1 1819) = s5
    have g1 : ∀ i, ¬ (i = fP (sCur σ) 1 ∨ i = 7519) → s5.1 i = r3.2.1.1 i := fun i hi => by rw [← hs5, uI_o (by omega), uI_o (by omega)]
    have g1f : s5.1 (fP (sCur σ) 1) = nI sz := by rw [← hs5, uI_o (by omega), uI_s]
    have g2 : s5.2 = r3.2.1.2 := by rw [← hs5]; rfl
    clear hs5
    have px5 : PFx r3.2.1 s5 := ⟨⟨fun j hj h4 => g1 j (by omega), fun j _ => by rw [g2]⟩, fun k hk => ⟨by rw [g2], by show s5.2.2.2.2.1 k = _; rw [g2]⟩, by rw [g2]⟩
    have by5 : BY False s5 := by
      have b3 := mg3.1
      unfold BY at b3 ⊢
      rw [show sN s5 = sN r3.2.1 by show s5.2.2.2.2.1 = _; rw [g2], g2, g1 1812 (by omega), g1 1813 (by omega), g1 1907 (by omega)]
      exact b3
    have h5 : HfN (uI s2 (fP (sCur σ) 1) (nI sz)) s5 := by
      refine ⟨fun i h1 h2 => ?_, fun k hk => ?_, ?_, ?_⟩
      · by_cases e : i = fP (sCur σ) 1
        · rw [e, g1f, uI_s]
        · rw [g1 i (by omega), uI_o e]; exact hn3.1 i h1 h2
      · rw [g2, show sN s5 k = sN r3.2.1 k by show s5.2.2.2.2.1 k = _; rw [g2]]
        exact hn3.2.1 k hk
      · rw [g2]; exact hn3.2.2.1
      · refine ⟨?_, ?_, ?_⟩
        · show s5.2.2.2.2.2.1.1 = _; rw [g2]; exact hn3.2.2.2.1
        · show s5.2.2.2.2.2.1.2.1 = _; rw [g2]; exact hn3.2.2.2.2.1
        · show s5.2.2.2.2.2.1.2.2.2.2 = _; rw [g2]; exact hn3.2.2.2.2.2
    have cM5 : cM cc (sCur σ) s5 = cM cc (sCur σ) s2 := (HfN_cM h5).trans rfl
    have sp5 : sPr s5 = some (sCur σ) := by
      show s5.2.2.2.2.2.1.2.2.1 = _
      rw [g2]
      show r3.2.1.2.2.2.2.2.1.2.2.1 = _
      rw [v4.2.2.2.2]
      exact sp2.trans y1
    have ctl : CtL2 (cM (mkc cc (cdr (sCur σ) s2) (sz + cs.length + 1) (rsD sz D)) (sCur σ) s2) (cM cc (sCur σ) s5) := by
      rw [cM5]
      exact ⟨rfl, rfl, rfl, pgt.2.2.2.1.2.2.1, dn⟩
    have mg5 := MsG_nn ctl px5 (ct_M sp5) by5 (by rw [g2]; exact (MsG_v mg3).2) mg3
    have e9 : s5.1 1903 = σ.1 1903 := by
      rw [g1 1903 (by omega), v2, vr2.1 1903 (by omega), rx.1.1 1903 (by omega)]
    have e5 : ∀ i, i = 7517 ∨ i = 7518 ∨ i = 3701 ∨ i = 7510 ∨ i = 7511 ∨ i = 7513 → s5.1 i = s2.1 i := fun i hi => by rw [g1 i (by omega)]; exact v4.1 i (by omega)
    have e7 : ∀ i, i = 7517 ∨ i = 7518 ∨ i = 7510 ∨ i = 7511 ∨ i = 7513 → s2.1 i = σ.1 i := fun i hi => by
      by_cases e : i = 7513
      · rw [e]; exact f13
      · rw [vr2.1 i (by omega)]; exact rx.1.1 i (by omega)
    have n66 : sN s5 66 = sN σ 66 := by
      show s5.2.2.2.2.1 66 = _
      rw [g2]
      rw [show r3.2.1.2.2.2.2.1 66 = sN s2 66 from (v4.2.2.1 66 (by unfold rwM; omega)).2, vr_n vr2, rx.2.1.2.1 66 (by omega)]
    have q17 : uN (s5.1 7517) ≤ sN s5 66 := by rw [e5 7517 (by omega), e7 7517 (by omega), n66]; exact q1
    have q18 : uN (s5.1 7518) ≤ 2 := by rw [e5 7518 (by omega), e7 7518 (by omega)]; exact q2
    have scS : sCur (uI s2 (fP (sCur σ) 1) (nI sz)) = sCur σ := sc2
    have close : ∀ s, HfN (uI s2 (fP (sCur σ) 1) (nI sz)) s → sPr s = some (sCur σ) → uN (s.1 7517) ≤ sN s 66 → uN (s.1 7518) ≤ 2 → Mst (cM cc (sCur σ) s2) s → uN (s.1 1903) ≤ 20000 * (j + 1) → IC XE (j + 1) s := fun s h1 h2 h3 h4 h5 h6 => by
      refine IC_runN icS hj ?_ h1 (by rw [scS]; exact h2) h3 h4 ⟨sz, E.1, E.2.2.2.2.2.2, cc, hX, by rw [scS]; exact pg', by rw [scS]; exact cd', by rw [scS]; exact h5, h6⟩
      rw [uI_o (by omega), e7 7510 (by omega)]
      exact k0
    have ph5 := Ph_s (σ := r3.2.1) (σ' := s5) (by rw [g2])
    have co1 : r3.2.2.1 + PhC r3.2.1 ≤ PhC s2 := v3.1
    have co2 : r3.2.2.2 + PhS r3.2.1 ≤ PhS s2 := v3.2
    refine Tm_op (c_isError (L := lI lZ 0 r3.1.2) (σ := s5)) (fun r5 z5 => ?_)
    obtain ⟨⟨x1, x2⟩, _, x4⟩ := z5
    rw [x1]
    refine Tm_suc (fun k => by rw [f_X11_work]) ?_
    refine Tm_ite (fun cE => ?_) (fun cE => ?_)
    · have gv : Gv g r3.1.2 := by
        rcases gw with z | z
        · exact z
        · exact absurd z (x4.1 (lI_same.symm.trans cE))
      refine Tm_suc (fun k => by rw [f_X11_work]) ?_
      refine Tm_oxc (c_show (g := g) (L := lI lZ 1 r3.1.2) (MsG_v mg5).1 (MsG_v mg5).2 by5 q18 gv) (fun r z => z.1) (fun r6 z6 => ?_)
      obtain ⟨b1, b2, b3, b4, b5, b6, b7⟩ := z6
      have mg6 := MsG_xx (c1 := cM cc (sCur σ) s5) (c2 := cM cc (sCur σ) s5) ⟨rfl, rfl, rfl, fun _ _ z => z⟩ (SwF_x b3) (by
        have := ct_M (c := cc) (b := sCur σ) (σ := r6.2.1) ((SwF_M b3).2.2.2.2.1.trans sp5)
        rw [Sw_cM b3] at this
        exact this) b5 b4 mg5
      have ms6 := Mst_of mg6
      rw [cM5] at ms6
      have h6 := HfN_t h5 (HfN_sw b3)
      have e96 : r6.2.1.1 1903 = s5.1 1903 := b3.1.1 1903 (by decide)
      have ic6 := close r6.2.1 h6 ((SwF_M b3).2.2.2.2.1.trans sp5) b6 b7 ms6 (by rw [e96, e9]; omega)
      have co3 : r6.2.2.1 + PhC r6.2.1 ≤ PhC s5 := b2.1
      have co4 : r6.2.2.2 + PhS r6.2.1 ≤ PhS s5 := b2.2
      refine Tm_suc (fun k => by rw [f_X11_work]) ?_
      refine Tm_some (fin _ rfl ic6 ?_ (fun i hi => ?_) (by show r1.2.2.1 + (r3.2.2.1 + (r6.2.2.1 + 0)) + PhC r6.2.1 ≤ _; omega) (by show r1.2.2.2 + (r3.2.2.2 + (r6.2.2.2 + 0)) + PhS r6.2.1 ≤ _; omega))
      · show r6.2.1.1 3701 = 0
        rw [b3.1.1 3701 (by decide), e5 3701 (by omega)]
        exact f37
      · show r6.2.1.1 i = σ.1 i
        rw [b3.1.1 i (by omega), e5 i (by omega)]
        exact e7 i (by omega)
    · have ms5 := Mst_of mg5
      rw [cM5] at ms5
      have ic5 := close s5 h5 sp5 q17 q18 ms5 (by rw [e9]; omega)
      refine Tm_suc (fun k => by rw [f_X11_work]) ?_
      refine Tm_some (fin _ rfl ic5 ?_ (fun i hi => ?_) (by show r1.2.2.1 + (r3.2.2.1 + 0) + PhC s5 ≤ _; omega) (by show r1.2.2.2 + (r3.2.2.2 + 0) + PhS s5 ≤ _; omega))
      · show s5.1 3701 = 0
        rw [e5 3701 (by omega)]
        exact f37
      · show s5.1 i = σ.1 i
        rw [e5 i (by omega)]
        exact e7 i (by omega)
end DZP
