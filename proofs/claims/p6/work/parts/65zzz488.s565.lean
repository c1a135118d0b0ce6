/-! The house: view, on both sides. -/
section DZN
variable {σ s s1 : CS} {τ : MS} {b : Bool} {N N0 M W n sz sz' V vg nu F j : Nat} {E : En} {c c' : Ct} {MD : Nat → Nat → Nat} {tb : List Ent} {gl : List Gn} {pr : Nat → Nat} {XE : XEt} {L : Nat → Int32}
theorem rj_viewN (h : RfJ XE j τ) (c : τ.1 111 = 0) : Tm (fun k => x_view k 0 L τ) (fun r => RfJ XE (j + 1) r.2 ∧ KpT τ r.2) := by
  refine Tm_suc (fun k => by rw [x_view]) ?_
  refine Tm_ite (fun _ => ?_) (fun z => absurd c z)
  refine Tm_suc (fun k => by rw [x_view]) ?_
  refine Tm_ob (s_good _ _) (fun r hr => ?_)
  rw [hr]
  refine Tm_ite (fun _ => ?_) (fun z => absurd rfl z)
  exact Tm_some ⟨RfJ_2 h, KpT_2⟩
/-- the program stands as it was -/
theorem vr_pg (rx : RxF b sz (tbE 0 E).length n σ s1) (vr : VwZ s1 s) (e11 : s1.1 (fP b 11) = nI (tbE 0 E).length) (r64 : s.2.2.1 64 = σ.2.2.1 64) {e0 : Nat} (tb : TbR b (tbE 0 E) σ) (de : DE E 0 vg nu vg) (ut : UTb b nu c MD σ) (r18 : σ.2.2.1 (pR18 b) 0 = nI vg) (pgt : PgT E vg nu 0 vg c) (eN : tcN c = sz) (hc : ∀ i, i < sz → cdr b σ i = tcC c i) (en : σ.1 (fP b 2) = nI e0 ∧ e0 < sz ∧ tcD c e0 = some (0, 0, (bsl + vg) :: Vl vg, 2)) (vw : ∀ i, i < V → ∃ pc rk, σ.2.2.1 64 i = nI pc ∧ pc < sz ∧ rk ≤ RK ∧ tcD c pc = some (41, 0, [bsl], rk)) : PgI E.1 E.2.2.2.2.2.2 b sz V c s := by
  have fn := fP_ns b
  have fc2 := fP_c b 2
  refine ⟨E, nu, vg, e0, MD, ⟨rfl, rfl⟩, ⟨vr_tb rx vr e11 tb, de⟩, ⟨vr_ut rx vr de.2.1.2.2.1 ut, (vr_18 rx vr).trans r18⟩, pgt, ⟨eN, fun i hi => ((vr_cd rx vr).1 i).trans ((rx.2.2.2.2.2.1 i hi).1.trans (hc i hi))⟩, ⟨?_, en.2⟩, fun i hi => by rw [r64]; exact vw i hi⟩
  rw [vr.1 _ (by omega), rx.1.1 _ (by omega)]
  exact en.1
theorem hp_view (hj : j < 512) : cPr j (fun x => x = 0 ∨ x = 2 ∨ x = 4) (fun σ k => f_X11_view k 0 lZ σ) (fun τ k => x_view k 0 (fun _ => 0) τ) (fun _ _ => True) := by
  intro σ τ h
  have h0 := h
  obtain ⟨XE, ic, rf, tr, e10, e11, e13⟩ := h
  show Tm (fun k => f_X11_view k 0 lZ σ) _
  refine Tm_suc (fun k => by rw [f_X11_view]) ?_
  refine Tm_ite (fun c => ?_) (fun c => ?_)
  · exact Tm_some ⟨Or.inr (Or.inl rfl), by show 1 + PhC σ ≤ _; omega, by show 6 + PhS σ ≤ _; omega, IB_k2 (gM := fun k => x_view k 0 (fun _ => 0) τ) h0 hj (fun XE rf => rj_viewN rf (e10.1 c))⟩
  obtain ⟨n, sz, ⟨t1, t2, t3, t4⟩, ⟨p1, p2, p3, p4, p5, p6⟩, ⟨q1, q2, q3⟩, ⟨m1, m2⟩, pp⟩ := ic
  refine Tm_suc (fun k => by rw [f_X11_view]) ?_
  refine Tm_ite (fun c8 => ?_) (fun c8 => ?_)
  case refine_2 =>
    have u8 : uN (8 : Int32) = 8 := rfl
    have e8 : σ.1 7513 = 8 := by
      refine u_eq.2 ?_
      have c8' : ¬ σ.1 7513 < 8 := c8
      rw [u_ltn (by omega) (by omega)] at c8'
      omega
    refine Tm_some ⟨Or.inr (Or.inr rfl), by show 1 + PhC σ ≤ _; omega, by show 6 + PhS σ ≤ _; omega, IB_k2 (gM := fun k => x_view k 0 (fun _ => 0) τ) h0 hj (fun XE rf => Tm_mono (rj_view rf) (fun r w => ⟨w.1, ?_⟩))⟩
    rcases w.2.2 with z | z | z
    · exact z.2
    · exact z.2
    · exact absurd (e13.symm.trans e8) z.2.1
  obtain ⟨k0, gl, pr, cc, hX, pg, k4⟩ := pp.resolve_left (fun z => c z.1)
  obtain ⟨qq, kq, hq, w1, ⟨w2, w3⟩, w4⟩ := rj_view (L := fun _ => 0) rf
  have v8 : uN (σ.1 7513) < 8 := by
    have u8 : uN (8 : Int32) = 8 := rfl
    have c8' : σ.1 7513 < 8 := c8
    rw [u_ltn (by omega) (by omega)] at c8'
    omega
  have n8 : ¬ τ.1 73 = 8 := fun z => by
    rw [← e13] at z
    have u8 : uN (8 : Int32) = 8 := rfl
    rw [z, u8] at v8
    omega
  obtain ⟨q4, _, n', g, bt, x, tp, eg, hG, hv⟩ := (w4.resolve_left (fun z => c (e10.2 z.1))).resolve_left (fun z => n8 z.1)
  obtain rfl : n' = n := nI_inj (tp.1.1.symm.trans (tr.1.symm.trans t2)) (by have := tp.1.2; omega) (by omega)
  rw [hX] at eg
  cases eg
  obtain ⟨E, nu, vg, e0, MD, ⟨e1, e2⟩, ⟨tb, de⟩, ⟨ut, r18⟩, pgt, ⟨eN, hc⟩, en, vw⟩ := pg
  subst e1
  subst e2
  have fn := fP_ns (sCur σ)
  have fc1 := fP_c (sCur σ) 1
  have fc2 := fP_c (sCur σ) 2
  have fc11 := fP_c (sCur σ) 11
  have fc19 := fP_c (sCur σ) 19
  have p13 := pR_13 (sCur σ)
  have nu40 := de.2.1.2.2.1
  have re := c_readExp (b := sCur σ) (N := sz) (ρ := τ) (al := 0) (L := lI (lB lZ 1 (sCur σ)) 2 0) t1 t2 (by omega) t4 tr p5 p3 tb de pgt.2.2 ut (by omega) rfl rfl (by omega) hG
  refine Tm_suc (fun k => by rw [f_X11_view]) ?_
  refine Tm_oxc re (fun r z => z.1) (fun r1 z1 => ?_)
  obtain ⟨z1, z2, rx, z11, zn, zy⟩ := z1
  rw [Nat.zero_add, Nat.zero_add] at z2
  generalize hs2 : uI (uI r1.2.1 3701 0) 7512 ((uI r1.2.1 3701 0).1 4006) = s2
  have vr2 : VwZ r1.2.1 s2 := by
    rw [← hs2]
    exact ⟨fun j hj => by rw [uI_o (by omega), uI_o (by omega)], rfl, fun _ _ => rfl, rfl⟩
  have r2 : ∀ k, s2.2.2.1 k = r1.2.1.2.2.1 k := fun k => by rw [← hs2]; rfl
  have f37 : s2.1 3701 = 0 := by rw [← hs2, uI_o (by decide), uI_s]
  have f13 : s2.1 7513 = σ.1 7513 := by
    rw [← hs2, uI_o (by decide), uI_o (by decide)]
    exact rx.1.1 7513 (by omega)
  have ph2 := Ph_s (σ := r1.2.1) (σ' := s2) (by rw [← hs2]; rfl)
  clear hs2
  have ff : ∀ i, i = 7510 ∨ i = 7511 → r1.2.1.1 i = σ.1 i := fun i hi => rx.1.1 i (by omega)
  cases x with
  | none =>
    obtain ⟨y1, y2⟩ := zn rfl
    refine Tm_yes y1 ?_
    refine Tm_some ⟨Or.inl rfl, by show r1.2.2.1 + 0 + PhC s2 ≤ _; omega, by show r1.2.2.2 + 0 + PhS s2 ≤ _; omega, qq, kq, hq, ?_, trivial⟩
    have q73 : qq.2.1 73 = τ.1 73 := by
      rcases hv with z | z
      · exact z.2
      · exact absurd rfl z.1
    have r64 : s2.2.2.1 64 = σ.2.2.1 64 := (r2 64).trans (rx.2.1.1 64 (by omega))
    have r67 : s2.2.2.1 67 = σ.2.2.1 67 := (r2 67).trans (rx.2.1.1 67 (by omega))
    have pg2 : PgI E.1 E.2.2.2.2.2.2 (sCur σ) sz (uN (s2.1 7513)) cc s2 := vr_pg rx vr2 z11 r64 tb de ut r18 pgt eN hc en (by rw [f13]; exact vw)
    have cd2 : CdL (sCur σ) sz s2 := by
      obtain ⟨_, e2⟩ := vr_cd rx vr2
      refine ⟨by rw [vr2.1 _ (by omega)]; exact y2, by rw [e2]; exact rx.2.2.2.2.2.2.1.1, by rw [e2, vr_n vr2]; exact rx.2.2.2.2.2.2.1.2⟩
    have ic2 : IC XE (j + 1) s2 := IC_cl t3 t4 p1 p2 p4 p6 q1 q2 m1 m2 k0 hX k4 hj rx vr2 f37 (fun g hg => by rw [r67]; exact hg) (by rw [f13]; exact q3) cd2 (by omega) rfl (fun _ _ z => z) pg2
    exact ⟨XE, ic2, w1, tRel_0 f37 q4, by rw [vr2.1 7510 (by decide), ff 7510 (by omega), w2]; exact e10, by rw [vr2.1 7511 (by decide), ff 7511 (by omega), w3]; exact e11, by rw [f13, q73]; exact e13⟩
  | some t =>
    obtain ⟨y1, cs, cd2, y3, y4, sg, ln⟩ := zy t rfl
    refine Tm_no (by rw [y1]; decide) ?_
    rw [p5.1]
    have q73 : qq.2.1 73 = τ.1 73 + 1 := by
      rcases hv with z | z
      · exact absurd z.1 (by intro e; cases e)
      · exact z.2
    obtain ⟨V, hV⟩ : ∃ V, uN (σ.1 7513) = V := ⟨_, rfl⟩
    have eV : σ.1 7513 = nI V := u_eq.2 (by rw [hV, u_n (by omega)])
    have fV : s2.1 7513 = nI V := f13.trans eV
    have e3 : 3 + 3 * s2.1 7513 = nI (3 + 3 * V) := by
      rw [fV]
      have := (by decide : ∀ m : Fin 8, (3 : Int32) + 3 * nI m.1 = nI (3 + 3 * m.1)) ⟨V, by omega⟩
      exact this
    have i8 : ¬ (s2.1 7513 < 0 ∨ 8 ≤ (s2.1 7513).toNatClampNeg) := by rw [fV]; exact n_in (by omega) (by omega)
    have c8i : (s2.1 7513).toNatClampNeg = V := by rw [fV, n_cl (p := V) (by omega)]
    have i27 : ∀ d, d ≤ 2 → ¬ (nI (3 + 3 * V) + nI d < 0 ∨ 27 ≤ (nI (3 + 3 * V) + nI d).toNatClampNeg) := fun d hd => by rw [n_add (by omega)]; exact n_in (by omega) (by omega)
    have c27 : ∀ d, d ≤ 2 → (nI (3 + 3 * V) + nI d).toNatClampNeg = 3 + 3 * V + d := fun d hd => by rw [n_add (by omega), n_cl (p := 3 + 3 * V + d) (by omega)]
    have i0 : ¬ (3 + 3 * s2.1 7513 < 0 ∨ 27 ≤ (3 + 3 * s2.1 7513).toNatClampNeg) := by rw [e3]; exact n_in (by omega) (by omega)
    have c0 : (3 + 3 * s2.1 7513).toNatClampNeg = 3 + 3 * V := by rw [e3, n_cl (p := 3 + 3 * V) (by omega)]
    refine Tm_suc (fun k => by rw [f_X11_view]) ?_
    refine Tm_chk i8 (Tm_chk i8 (Tm_chk i0 ?_))
    show Tm (fun k => f_X11_view k 4 (lI (lI lZ 1 (nI sz)) 3 (3 + 3 * s2.1 7513)) (uA (uA (uA s2 64 (s2.1 7513).toNatClampNeg (nI sz)) 65 (s2.1 7513).toNatClampNeg (vp_nar .boolean 0)) 67 (3 + 3 * s2.1 7513).toNatClampNeg (-2147483648))) _
    rw [c8i, c0, e3]
    generalize hs3 : uA (uA (uA s2 64 V (nI sz)) 65 V (vp_nar .boolean 0)) 67 (3 + 3 * V) (-2147483648) = s3
    have g1 : s3.1 = s2.1 ∧ s3.2.1 = s2.2.1 ∧ s3.2.2.2 = s2.2.2.2 := by rw [← hs3]; exact ⟨rfl, rfl, rfl⟩
    have g2 : ∀ k, ¬ (k = 64 ∨ k = 65 ∨ k = 67) → s3.2.2.1 k = s2.2.2.1 k := fun k hk => by rw [← hs3, uA_k (by omega), uA_k (by omega), uA_k (by omega)]
    have g64 : s3.2.2.1 64 = upd (s2.2.2.1 64) V (nI sz) := by rw [← hs3, uA_k (by decide), uA_k (by decide), uA_r]
    have g67 : s3.2.2.1 67 = upd (s2.2.2.1 67) (3 + 3 * V) (-2147483648) := by rw [← hs3, uA_r, uA_k (by decide), uA_k (by decide)]
    clear hs3
    refine Tm_suc (fun k => by rw [f_X11_view]) ?_
    refine Tm_chk (show ¬ (nI (3 + 3 * V) + nI 1 < 0 ∨ 27 ≤ (nI (3 + 3 * V) + nI 1).toNatClampNeg) from i27 1 (by omega)) (Tm_chk (show ¬ (nI (3 + 3 * V) + nI 2 < 0 ∨ 27 ≤ (nI (3 + 3 * V) + nI 2).toNatClampNeg) from i27 2 (by omega)) ?_)
    show Tm (fun k => f_X11_view k 5 (lI (lI lZ 1 (nI sz)) 3 (nI (3 + 3 * V))) (uI (uA (uA s3 67 (nI (3 + 3 * V) + nI 1).toNatClampNeg (-2147483648)) 67 (nI (3 + 3 * V) + nI 2).toNatClampNeg (-2147483648)) 7513 (s3.1 7513 + 1))) _
    rw [c27 1 (by omega), c27 2 (by omega)]
    generalize hs4 : uI (uA (uA s3 67 (3 + 3 * V + 1) (-2147483648)) 67 (3 + 3 * V + 2) (-2147483648)) 7513 (s3.1 7513 + 1) = s4
    have k1 : ∀ i, ¬ i = 7513 → s4.1 i = s3.1 i := fun i hi => by rw [← hs4, uI_o hi]; rfl
    have k13 : s4.1 7513 = σ.1 7513 + 1 := by rw [← hs4, uI_s, g1.1, f13]
    have k2 : s4.2.1 = s3.2.1 ∧ s4.2.2.2 = s3.2.2.2 := by rw [← hs4]; exact ⟨rfl, rfl⟩
    have k3 : ∀ k, ¬ k = 67 → s4.2.2.1 k = s3.2.2.1 k := fun k hk => by
      rw [← hs4]
      show (uA (uA s3 67 (3 + 3 * V + 1) (-2147483648)) 67 (3 + 3 * V + 2) (-2147483648)).2.2.1 k = _
      rw [uA_k hk, uA_k hk]
    have k67 : s4.2.2.1 67 = upd (upd (s3.2.2.1 67) (3 + 3 * V + 1) (-2147483648)) (3 + 3 * V + 2) (-2147483648) := by
      rw [← hs4]
      show (uA (uA s3 67 (3 + 3 * V + 1) (-2147483648)) 67 (3 + 3 * V + 2) (-2147483648)).2.2.1 67 = _
      rw [uA_r, uA_r]
    clear hs4
    have eV1 : s4.1 7513 = nI (V + 1) := by rw [k13, eV, n_add1]
    have uV1 : uN (s4.1 7513) = V + 1 := by rw [eV1, u_n (by omega)]
    have vr4 : VwZ r1.2.1 s4 := ⟨fun j hj => by rw [k1 j (by omega), g1.1]; exact vr2.1 j hj, by rw [k2.1, g1.2.1]; exact vr2.2.1, fun k hk => by rw [k3 k (by omega), g2 k hk]; exact vr2.2.2.1 k hk, by rw [k2.2, g1.2.2]; exact vr2.2.2.2⟩
    have f374 : s4.1 3701 = 0 := by rw [k1 3701 (by decide), g1.1]; exact f37
    have ph4 := Ph_s (σ := s2) (σ' := s4) (by rw [k2.2, g1.2.2])
    have r67 : s2.2.2.1 67 = σ.2.2.1 67 := (r2 67).trans (rx.2.1.1 67 (by omega))
    have r64 : s2.2.2.1 64 = σ.2.2.1 64 := (r2 64).trans (rx.2.1.1 64 (by omega))
    have h67 : ∀ g : Nat → Prop, (∀ i, i < 27 → Gv g (σ.2.2.1 67 i)) → ∀ i, i < 27 → Gv g (s4.2.2.1 67 i) := fun g hg i hi => by
      rw [k67, g67, r67]
      by_cases a1 : i = 3 + 3 * V + 2
      · rw [a1, upd_same]; exact Gv_om g
      · rw [upd_other a1]
        by_cases a2 : i = 3 + 3 * V + 1
        · rw [a2, upd_same]; exact Gv_om g
        · rw [upd_other a2]
          by_cases a3 : i = 3 + 3 * V
          · rw [a3, upd_same]; exact Gv_om g
          · rw [upd_other a3]; exact hg i hi
    obtain ⟨ec, e2⟩ := vr_cd rx vr4
    have cd4 : CdL (sCur σ) (sz + cs.length + 1) s4 := ⟨by rw [vr4.1 _ (by omega)]; exact cd2.1, by rw [e2]; exact cd2.2.1, by rw [e2, vr_n vr4]; exact cd2.2.2⟩
    have l36 : sz + cs.length + 1 ≤ 36864 := by omega
    obtain ⟨D, pgt', hD, dd, _⟩ := Un_v (C := cdr (sCur σ) s4) pgt nu40 (Nat.zero_le _) sg (by rw [eN]; exact l36) (by rw [eN]; exact fun i hi => (ec i).trans ((rx.2.2.2.2.2.1 i hi).1.trans (hc i hi))) (by rw [eN]; exact fun i hi => (ec _).trans (y3 i hi)) (by rw [eN]; exact (ec _).trans y4)
    rw [eN] at pgt' hD
    have en2 := en.2
    have pg4 : PgI E.1 E.2.2.2.2.2.2 (sCur σ) (sz + cs.length + 1) (uN (s4.1 7513)) (mkc cc (cdr (sCur σ) s4) (sz + cs.length + 1) D) s4 := by
      refine ⟨E, nu, vg, e0, MD, ⟨rfl, rfl⟩, ⟨vr_tb rx vr4 z11 tb, de⟩, ⟨vr_ut rx vr4 nu40 ut, (vr_18 rx vr4).trans r18⟩, pgt', ⟨rfl, fun i hi => rfl⟩, ⟨?_, by omega, dd _ _ en2.2⟩, fun i hi => ?_⟩
      · rw [vr4.1 _ (by omega), rx.1.1 _ (by omega)]
        exact en.1
      · rw [uV1] at hi
        rw [k3 64 (by decide), g64, r64]
        by_cases a : i = V
        · rw [a, upd_same]
          exact ⟨sz, RK, rfl, by omega, Nat.le_refl _, hD⟩
        · rw [upd_other a]
          obtain ⟨pc, rk, v1, v2, v3, v4⟩ := vw i (by omega)
          exact ⟨pc, rk, v1, by omega, v3, dd _ _ v4⟩
    have ic4 : IC XE (j + 1) s4 := IC_cl (c' := mkc cc (cdr (sCur σ) s4) (sz + cs.length + 1) D) t3 t4 p1 p2 p4 p6 q1 q2 m1 m2 k0 hX k4 hj rx vr4 f374 h67 (by rw [uV1]; omega) cd4 (by omega) rfl dd pg4
    refine Tm_suc (fun k => by rw [f_X11_view]) ?_
    refine Tm_some ⟨Or.inl rfl, by show r1.2.2.1 + 0 + PhC s4 ≤ _; omega, by show r1.2.2.2 + 0 + PhS s4 ≤ _; omega, qq, kq, hq, ?_, trivial⟩
    exact ⟨XE, ic4, w1, tRel_0 f374 q4, by rw [vr4.1 7510 (by decide), ff 7510 (by omega), w2]; exact e10, by rw [vr4.1 7511 (by decide), ff 7511 (by omega), w3]; exact e11, by rw [k13, q73, e13]⟩
end DZN
