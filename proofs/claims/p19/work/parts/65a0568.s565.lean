section JnS565
/-! The house: view, on both sides. -/
section DZN
variable {σ s s1 : CS} {τ : MS} {b : Bool} {N N0 M W n sz sz' V vg nu F j : Nat} {E : En} {c c' : Ct} {MD : Nat → Nat → Nat} {tb : List Ent} {gl : List Gn} {pr : Nat → Nat} {XE : XEt} {L : Nat → Int32}
theorem rj_viewN (h : RfJ XE j τ) (c : τ.1 111 = 0) : Tm (fun k => x_view k 0 L τ) (fun r => RfJ XE (j + 1) r.2 ∧ KpT τ r.2 ∧ r.2.1 2 = 1 ∧ r.2.1 11 = τ.1 11) := by
  refine Tm_suc (fun k => by rw [x_view]) ?_
  refine Tm_ite (fun _ => ?_) (fun z => absurd c z)
  refine Tm_suc (fun k => by rw [x_view]) ?_
  refine Tm_ob (s_good _ _) (fun r hr => ?_)
  rw [hr]
  refine Tm_ite (fun _ => ?_) (fun z => absurd rfl z)
  exact Tm_some ⟨RfJ_2 h, KpT_2, rfl, rfl⟩
/-- the program stands as it was -/
theorem vr_pg (rx : RxF b sz (tbE 0 E).length n σ s1) (vr : VwZ s1 s) (e11 : s1.1 (fP b 11) = nI (tbE 0 E).length) (r64 : s.2.2.1 64 = σ.2.2.1 64) {e0 : Nat} (tb : TbR b (tbE 0 E) σ) (de : DE E 0 vg nu vg) (ut : UTb b nu c MD σ) (r18 : σ.2.2.1 (pR18 b) 0 = nI vg) (pgt : PgT E vg nu 0 vg c) (eN : tcN c = sz) (hc : ∀ i, i < sz → cdr b σ i = tcC c i) (en : σ.1 (fP b 2) = nI e0 ∧ e0 < sz ∧ tcD c e0 = some (0, 0, (bsl + vg) :: Vl vg, 2)) (vw : ∀ i, i < V → ∃ pc rk, σ.2.2.1 64 i = nI pc ∧ pc < sz ∧ rk ≤ RK ∧ tcD c pc = some (41, 0, [bsl], rk)) : PgI E.1 E.2.2.2.2.2.2 b sz V c s := by
  have fn := fP_ns b
  have fc2 := fP_c b 2
  refine ⟨E, nu, vg, e0, MD, ⟨rfl, rfl⟩, ⟨vr_tb rx vr e11 tb, de⟩, ⟨vr_ut rx vr de.2.1.2.2.1 ut, (vr_18 rx vr).trans r18⟩, pgt, ⟨eN, fun i hi => ((vr_cd rx vr).1 i).trans ((rx.2.2.2.2.2.1 i hi).1.trans (hc i hi))⟩, ⟨?_, en.2⟩, fun i hi => by rw [r64]; exact vw i hi⟩
  rw [vr.1 _ (by omega), rx.1.1 _ (by omega)]
  exact en.1
/-- of a call that left the house's state as it was, and what is told of both answers -/
theorem IB_k3 {σ : CS} {τ : MS} {E : Int32 × MS → Prop} {gM : Nat → Option (Int32 × MS)} (h : IB j σ τ) (hj : j < 512) (hr : ∀ XE, RfJ XE j τ → Tm (fun k => gM k) (fun q : Int32 × MS => RfJ XE (j + 1) q.2 ∧ KpT τ q.2 ∧ E q)) : Tm (fun k => gM k) (fun q : Int32 × MS => IB (j + 1) σ q.2 ∧ E q) := by
  obtain ⟨XE, ic, rf, tr, e10, e11, e13⟩ := h
  refine Tm_mono (hr XE rf) (fun q w => ?_)
  obtain ⟨w1, w2, w3⟩ := w
  exact ⟨⟨XE, IC_s ic hj, w1, KpT_rel tr w2, by rw [w2.2.2.1]; exact e10, by rw [w2.2.2.2]; exact e11, by rw [w2.2.1]; exact e13⟩, w3⟩
/-- what view answers -/
def EVw (r : RS) (q : Int32 × MS) : Prop := (r.1.1 = 0 → q.2.1 2 = 0 ∧ r.1.2 = q.1) ∧ (r.1.1 = 2 → q.2.1 2 = 1) ∧ (r.1.1 = 4 → q.2.1 2 = 2)
theorem hp_viewE (hj : j < 512) : cPq j (fun x => x = 0 ∨ x = 2 ∨ x = 4) (fun σ k => f_X11_view k 0 lZ σ) (fun τ k => x_view k 0 (fun _ => 0) τ) EVw FK := by
  intro σ τ h
  have h0 := h
  obtain ⟨XE, ic, rf, tr, e10, e11, e13⟩ := h
  show Tm (fun k => f_X11_view k 0 lZ σ) _
  refine Tm_suc (fun k => by rw [f_X11_view]) ?_
  refine Tm_ite (fun c => ?_) (fun c => ?_)
  · exact Tm_some ⟨Or.inr (Or.inl rfl), by show 1 + PhC σ ≤ _; omega, by show 6 + PhS σ ≤ _; omega, IB_k3 (gM := fun k => x_view k 0 (fun _ => 0) τ) h0 hj (fun XE rf => Tm_mono (rj_viewN rf (e10.1 c)) (fun q w => ⟨w.1, w.2.1, ⟨fun z => absurd (show (2 : Nat) = 0 from z) (by decide), fun _ => w.2.2.1, fun z => absurd (show (2 : Nat) = 4 from z) (by decide)⟩, Or.inr ⟨rfl, w.2.2.2⟩⟩))⟩
  obtain ⟨n, sz, ⟨t1, t2, t3, t4⟩, ⟨p1, p2, p3, p4, p5, p6⟩, ⟨q1, q2, q3⟩, ⟨m1, m2⟩, pp⟩ := ic
  refine Tm_suc (fun k => by rw [f_X11_view]) ?_
  refine Tm_ite (fun c8 => ?_) (fun c8 => ?_)
  case refine_2 =>
    have u8 : uN (8 : Int32) = 8 := rfl
    have e8 : σ.1 7513 = 8 := by
      refine u_eq.2 ?_
      have c8' : ¬ σ.1 7513 < 8 := c8
      rw [u_ltn (by omega) (by omega)] at c8'
      omega
    refine Tm_some ⟨Or.inr (Or.inr rfl), by show 1 + PhC σ ≤ _; omega, by show 6 + PhS σ ≤ _; omega, IB_k3 (gM := fun k => x_view k 0 (fun _ => 0) τ) h0 hj (fun XE rf => Tm_mono (rj_view rf) (fun r w => ⟨w.1, ?_⟩))⟩
    rcases w.2.2 with z | z | z
    · exact absurd (e10.2 z.1) c
    · exact ⟨z.2.2.1, ⟨fun y => absurd (show (4 : Nat) = 0 from y) (by decide), fun y => absurd (show (4 : Nat) = 2 from y) (by decide), fun _ => z.2.1⟩, Or.inr ⟨rfl, z.2.2.2⟩⟩
    · exact absurd (e13.symm.trans e8) z.2.1
  obtain ⟨k0, gl, pr, cc, hX, pg, k4⟩ := pp.resolve_left (fun z => c z.1)
  obtain ⟨qq, kq, hq, w1, ⟨w2, w3⟩, w4⟩ := rj_view (L := fun _ => 0) rf
  have v8 : uN (σ.1 7513) < 8 := by
    have u8 : uN (8 : Int32) = 8 := rfl
    have c8' : σ.1 7513 < 8 := c8
    rw [u_ltn (by omega) (by omega)] at c8'
    omega
  have n8 : ¬ τ.1 73 = 8 := fun z => by
    rw [← e13] at z
    have u8 : uN (8 : Int32) = 8 := rfl
    rw [z, u8] at v8
    omega
  obtain ⟨⟨q4, q42⟩, _, n', g, bt, x, tp, eg, hG, hv⟩ := (w4.resolve_left (fun z => c (e10.2 z.1))).resolve_left (fun z => n8 z.1)
  obtain rfl : n' = n := nI_inj (tp.1.1.symm.trans (tr.1.symm.trans t2)) (by have := tp.1.2; omega) (by omega)
  rw [hX] at eg
  cases eg
  obtain ⟨E, nu, vg, e0, MD, ⟨e1, e2⟩, ⟨tb, de⟩, ⟨ut, r18⟩, pgt, ⟨eN, hc⟩, en, vw⟩ := pg
  subst e1
  subst e2
  have fn := fP_ns (sCur σ)
  have fc1 := fP_c (sCur σ) 1
  have fc2 := fP_c (sCur σ) 2
  have fc11 := fP_c (sCur σ) 11
  have fc19 := fP_c (sCur σ) 19
  have p13 := pR_13 (sCur σ)
  have nu40 := de.2.1.2.2.1
  have re := c_readExp (b := sCur σ) (N := sz) (ρ := τ) (al := 0) (L := lI (lB lZ 1 (sCur σ)) 2 0) t1 t2 (by omega) t4 tr p5 p3 tb de pgt.2.2 ut (by omega) rfl rfl (by omega) hG
  refine Tm_suc (fun k => by rw [f_X11_view]) ?_
  refine Tm_oxc re (fun r z => z.1) (fun r1 z1 => ?_)
  obtain ⟨z1, z2, rx, z11, zn, zy⟩ := z1
  rw [Nat.zero_add, Nat.zero_add] at z2
  generalize hs2 : uI (uI r1.2.1 3701 0) 7512 ((uI r1.2.1 3701 0).1 4006) = s2
  have vr2 : VwZ r1.2.1 s2 := by
    rw [← hs2]
    exact ⟨fun j hj => by rw [uI_o (by omega), uI_o (by omega)], rfl, fun _ _ => rfl, rfl⟩
  have r2 : ∀ k, s2.2.2.1 k = r1.2.1.2.2.1 k := fun k => by rw [← hs2]; rfl
  have f37 : s2.1 3701 = 0 := by rw [← hs2, uI_o (by decide), uI_s]
  have f13 : s2.1 7513 = σ.1 7513 := by
    rw [← hs2, uI_o (by decide), uI_o (by decide)]
    exact rx.1.1 7513 (by omega)
  have f12 : s2.1 7512 = r1.2.1.1 4006 := by rw [← hs2, uI_s, uI_o (by decide)]
  have ph2 := Ph_s (σ := r1.2.1) (σ' := s2) (by rw [← hs2]; rfl)
  clear hs2
  have ff : ∀ i, i = 7510 ∨ i = 7511 → r1.2.1.1 i = σ.1 i := fun i hi => rx.1.1 i (by omega)
  cases x with
  | inl yf =>
    obtain ⟨⟨y1, y2⟩, y6, y7⟩ := zn yf rfl
    refine Tm_yes y1 ?_
    refine Tm_some ⟨Or.inl rfl, by show r1.2.2.1 + 0 + PhC s2 ≤ _; omega, by show r1.2.2.2 + 0 + PhS s2 ≤ _; omega, qq, kq, hq, ?_, ⟨fun _ => ⟨q42, ?_⟩, fun z => absurd (show (0 : Nat) = 2 from z) (by decide), fun z => absurd (show (0 : Nat) = 4 from z) (by decide)⟩, Or.inl ?_⟩
    rotate_left
    · rcases hv with ⟨z, e, _, e2, _⟩ | ⟨z, e, _⟩
      · cases e
        rw [e2]
        show -1 - s2.1 4007 = _
        rw [vr2.1 4007 (by decide), y7]
      · cases e
    · show s2.1 7512 = qq.2.1 11
      rw [f12, y6]
      rcases hv with ⟨z, e, _, _, e3⟩ | ⟨z, e, _⟩
      · cases e
        exact e3.symm
      · cases e
    have q73 : qq.2.1 73 = τ.1 73 := by
      rcases hv with ⟨z, e, e2, _⟩ | ⟨z, e, _⟩
      · exact e2
      · cases e
    have r64 : s2.2.2.1 64 = σ.2.2.1 64 := (r2 64).trans (rx.2.1.1 64 (by omega))
    have r67 : s2.2.2.1 67 = σ.2.2.1 67 := (r2 67).trans (rx.2.1.1 67 (by omega))
    have pg2 : PgI E.1 E.2.2.2.2.2.2 (sCur σ) sz (uN (s2.1 7513)) cc s2 := vr_pg rx vr2 z11 r64 tb de ut r18 pgt eN hc en (by rw [f13]; exact vw)
    have cd2 : CdL (sCur σ) sz s2 := by
      obtain ⟨_, e2⟩ := vr_cd rx vr2
      refine ⟨by rw [vr2.1 _ (by omega)]; exact y2, by rw [e2]; exact rx.2.2.2.2.2.2.1.1, by rw [e2, vr_n vr2]; exact rx.2.2.2.2.2.2.1.2⟩
    have ic2 : IC XE (j + 1) s2 := IC_cl t3 t4 p1 p2 p4 p6 q1 q2 m1 m2 k0 hX k4 hj rx vr2 f37 (fun g hg => by rw [r67]; exact hg) (by rw [f13]; exact q3) cd2 (by omega) rfl (fun _ _ z => z) pg2
    exact ⟨XE, ic2, w1, tRel_0 f37 q4, by rw [vr2.1 7510 (by decide), ff 7510 (by omega), w2]; exact e10, by rw [vr2.1 7511 (by decide), ff 7511 (by omega), w3]; exact e11, by rw [f13, q73]; exact e13⟩
  | inr t =>
    obtain ⟨⟨y1, y6⟩, cs, cd2, y3, y4, sg, ln⟩ := zy t rfl
    refine Tm_no (by rw [y1]; decide) ?_
    rw [p5.1]
    have q73 : qq.2.1 73 = τ.1 73 + 1 ∧ qq.1 = τ.1 73 ∧ qq.2.1 11 = 0 := by
      rcases hv with ⟨z, e, _⟩ | ⟨z, e, e2, e3⟩
      · cases e
      · exact ⟨e2, e3⟩
    obtain ⟨V, hV⟩ : ∃ V, uN (σ.1 7513) = V := ⟨_, rfl⟩
    have eV : σ.1 7513 = nI V := u_eq.2 (by rw [hV, u_n (by omega)])
    have fV : s2.1 7513 = nI V := f13.trans eV
    have e3 : 3 + 3 * s2.1 7513 = nI (3 + 3 * V) := by
      rw [fV]
      have := (by decide : ∀ m : Fin 8, (3 : Int32) + 3 * nI m.1 = nI (3 + 3 * m.1)) ⟨V, by omega⟩
      exact this
    have i8 : ¬ (s2.1 7513 < 0 ∨ 8 ≤ (s2.1 7513).toNatClampNeg) := by rw [fV]; exact n_in (by omega) (by omega)
    have c8i : (s2.1 7513).toNatClampNeg = V := by rw [fV, n_cl (p := V) (by omega)]
    have i27 : ∀ d, d ≤ 2 → ¬ (nI (3 + 3 * V) + nI d < 0 ∨ 27 ≤ (nI (3 + 3 * V) + nI d).toNatClampNeg) := fun d hd => by rw [n_add (by omega)]; exact n_in (by omega) (by omega)
    have c27 : ∀ d, d ≤ 2 → (nI (3 + 3 * V) + nI d).toNatClampNeg = 3 + 3 * V + d := fun d hd => by rw [n_add (by omega), n_cl (p := 3 + 3 * V + d) (by omega)]
    have i0 : ¬ (3 + 3 * s2.1 7513 < 0 ∨ 27 ≤ (3 + 3 * s2.1 7513).toNatClampNeg) := by rw [e3]; exact n_in (by omega) (by omega)
    have c0 : (3 + 3 * s2.1 7513).toNatClampNeg = 3 + 3 * V := by rw [e3, n_cl (p := 3 + 3 * V) (by omega)]
    refine Tm_suc (fun k => by rw [f_X11_view]) ?_
    refine Tm_chk i8 (Tm_chk i8 (Tm_chk i0 ?_))
    show Tm (fun k => f_X11_view k 4 (lI (lI lZ 1 (nI sz)) 3 (3 + 3 * s2.1 7513)) (uA (uA (uA s2 64 (s2.1 7513).toNatClampNeg (nI sz)) 65 (s2.1 7513).toNatClampNeg (vp_nar .boolean 0)) 67 (3 + 3 * s2.1 7513).toNatClampNeg (-2147483648))) _
    rw [c8i, c0, e3]
    generalize hs3 : uA (uA (uA s2 64 V (nI sz)) 65 V (vp_nar .boolean 0)) 67 (3 + 3 * V) (-2147483648) = s3
    have g1 : s3.1 = s2.1 ∧ s3.2.1 = s2.2.1 ∧ s3.2.2.2 = s2.2.2.2 := by rw [← hs3]; exact ⟨rfl, rfl, rfl⟩
    have g2 : ∀ k, ¬ (k = 64 ∨ k = 65 ∨ k = 67) → s3.2.2.1 k = s2.2.2.1 k := fun k hk => by rw [← hs3, uA_k (by omega), uA_k (by omega), uA_k (by omega)]
    have g64 : s3.2.2.1 64 = upd (s2.2.2.1 64) V (nI sz) := by rw [← hs3, uA_k (by decide), uA_k (by decide), uA_r]
    have g67 : s3.2.2.1 67 = upd (s2.2.2.1 67) (3 + 3 * V) (-2147483648) := by rw [← hs3, uA_r, uA_k (by decide), uA_k (by decide)]
    clear hs3
    refine Tm_suc (fun k => by rw [f_X11_view]) ?_
    refine Tm_chk (show ¬ (nI (3 + 3 * V) + nI 1 < 0 ∨ 27 ≤ (nI (3 + 3 * V) + nI 1).toNatClampNeg) from i27 1 (by omega)) (Tm_chk (show ¬ (nI (3 + 3 * V) + nI 2 < 0 ∨ 27 ≤ (nI (3 + 3 * V) + nI 2).toNatClampNeg) from i27 2 (by omega)) ?_)
    show Tm (fun k => f_X11_view k 5 (lI (lI lZ 1 (nI sz)) 3 (nI (3 + 3 * V))) (uI (uA (uA s3 67 (nI (3 + 3 * V) + nI 1).toNatClampNeg (-2147483648)) 67 (nI (3 + 3 * V) + nI 2).toNatClampNeg (-2147483648)) 7513 (s3.1 7513 + 1))) _
    rw [c27 1 (by omega), c27 2 (by omega)]
    generalize hs4 : uI (uA (uA s3 67 (3 + 3 * V + 1) (-2147483648)) 67 (3 + 3 * V + 2) (-2147483648)) 7513 (s3.1 7513 + 1) = s4
    have k1 : ∀ i, ¬ i = 7513 → s4.1 i = s3.1 i := fun i hi => by rw [← hs4, uI_o hi]; rfl
    have k13 : s4.1 7513 = σ.1 7513 + 1 := by rw [← hs4, uI_s, g1.1, f13]
    have k2 : s4.2.1 = s3.2.1 ∧ s4.2.2.2 = s3.2.2.2 := by rw [← hs4]; exact ⟨rfl, rfl⟩
    have k3 : ∀ k, ¬ k = 67 → s4.2.2.1 k = s3.2.2.1 k := fun k hk => by
      rw [← hs4]
      show (uA (uA s3 67 (3 + 3 * V + 1) (-2147483648)) 67 (3 + 3 * V + 2) (-2147483648)).2.2.1 k = _
      rw [uA_k hk, uA_k hk]
    have k67 : s4.2.2.1 67 = upd (upd (s3.2.2.1 67) (3 + 3 * V + 1) (-2147483648)) (3 + 3 * V + 2) (-2147483648) := by
      rw [← hs4]
      show (uA (uA s3 67 (3 + 3 * V + 1) (-2147483648)) 67 (3 + 3 * V + 2) (-2147483648)).2.2.1 67 = _
      rw [uA_r, uA_r]
    clear hs4
    have eV1 : s4.1 7513 = nI (V + 1) := by rw [k13, eV, n_add1]
    have uV1 : uN (s4.1 7513) = V + 1 := by rw [eV1, u_n (by omega)]
    have vr4 : VwZ r1.2.1 s4 := ⟨fun j hj => by rw [k1 j (by omega), g1.1]; exact vr2.1 j hj, by rw [k2.1, g1.2.1]; exact vr2.2.1, fun k hk => by rw [k3 k (by omega), g2 k hk]; exact vr2.2.2.1 k hk, by rw [k2.2, g1.2.2]; exact vr2.2.2.2⟩
    have f374 : s4.1 3701 = 0 := by rw [k1 3701 (by decide), g1.1]; exact f37
    have ph4 := Ph_s (σ := s2) (σ' := s4) (by rw [k2.2, g1.2.2])
    have r67 : s2.2.2.1 67 = σ.2.2.1 67 := (r2 67).trans (rx.2.1.1 67 (by omega))
    have r64 : s2.2.2.1 64 = σ.2.2.1 64 := (r2 64).trans (rx.2.1.1 64 (by omega))
    have h67 : ∀ g : Nat → Prop, (∀ i, i < 27 → Gv g (σ.2.2.1 67 i)) → ∀ i, i < 27 → Gv g (s4.2.2.1 67 i) := fun g hg i hi => by
      rw [k67, g67, r67]
      by_cases a1 : i = 3 + 3 * V + 2
      · rw [a1, upd_same]; exact Gv_om g
      · rw [upd_other a1]
        by_cases a2 : i = 3 + 3 * V + 1
        · rw [a2, upd_same]; exact Gv_om g
        · rw [upd_other a2]
          by_cases a3 : i = 3 + 3 * V
          · rw [a3, upd_same]; exact Gv_om g
          · rw [upd_other a3]; exact hg i hi
    obtain ⟨ec, e2⟩ := vr_cd rx vr4
    have cd4 : CdL (sCur σ) (sz + cs.length + 1) s4 := ⟨by rw [vr4.1 _ (by omega)]; exact cd2.1, by rw [e2]; exact cd2.2.1, by rw [e2, vr_n vr4]; exact cd2.2.2⟩
    have l36 : sz + cs.length + 1 ≤ 36864 := by omega
    obtain ⟨D, pgt', hD, dd, _⟩ := Un_v (C := cdr (sCur σ) s4) pgt nu40 (Nat.zero_le _) sg (by rw [eN]; exact l36) (by rw [eN]; exact fun i hi => (ec i).trans ((rx.2.2.2.2.2.1 i hi).1.trans (hc i hi))) (by rw [eN]; exact fun i hi => (ec _).trans (y3 i hi)) (by rw [eN]; exact (ec _).trans y4)
    rw [eN] at pgt' hD
    have en2 := en.2
    have pg4 : PgI E.1 E.2.2.2.2.2.2 (sCur σ) (sz + cs.length + 1) (uN (s4.1 7513)) (mkc cc (cdr (sCur σ) s4) (sz + cs.length + 1) D) s4 := by
      refine ⟨E, nu, vg, e0, MD, ⟨rfl, rfl⟩, ⟨vr_tb rx vr4 z11 tb, de⟩, ⟨vr_ut rx vr4 nu40 ut, (vr_18 rx vr4).trans r18⟩, pgt', ⟨rfl, fun i hi => rfl⟩, ⟨?_, by omega, dd _ _ en2.2⟩, fun i hi => ?_⟩
      · rw [vr4.1 _ (by omega), rx.1.1 _ (by omega)]
        exact en.1
      · rw [uV1] at hi
        rw [k3 64 (by decide), g64, r64]
        by_cases a : i = V
        · rw [a, upd_same]
          exact ⟨sz, RK, rfl, by omega, Nat.le_refl _, hD⟩
        · rw [upd_other a]
          obtain ⟨pc, rk, v1, v2, v3, v4⟩ := vw i (by omega)
          exact ⟨pc, rk, v1, by omega, v3, dd _ _ v4⟩
    have ic4 : IC XE (j + 1) s4 := IC_cl (c' := mkc cc (cdr (sCur σ) s4) (sz + cs.length + 1) D) t3 t4 p1 p2 p4 p6 q1 q2 m1 m2 k0 hX k4 hj rx vr4 f374 h67 (by rw [uV1]; omega) cd4 (by omega) rfl dd pg4
    refine Tm_suc (fun k => by rw [f_X11_view]) ?_
    refine Tm_some ⟨Or.inl rfl, by show r1.2.2.1 + 0 + PhC s4 ≤ _; omega, by show r1.2.2.2 + 0 + PhS s4 ≤ _; omega, qq, kq, hq, ?_, ⟨fun _ => ⟨q42, ?_⟩, fun z => absurd (show (0 : Nat) = 2 from z) (by decide), fun z => absurd (show (0 : Nat) = 4 from z) (by decide)⟩, Or.inl ?_⟩
    rotate_left
    · show s4.1 7513 - 1 = _
      rw [k13, q73.2.1, ← e13, eV, n_add1, n_sub1 (by omega)]
    · show s4.1 7512 = qq.2.1 11
      rw [q73.2.2, k1 7512 (by decide), g1.1, f12, y6]
    exact ⟨XE, ic4, w1, tRel_0 f374 q4, by rw [vr4.1 7510 (by decide), ff 7510 (by omega), w2]; exact e10, by rw [vr4.1 7511 (by decide), ff 7511 (by omega), w3]; exact e11, by rw [k13, q73.1, e13]⟩
theorem hp_view (hj : j < 512) : cPr j (fun x => x = 0 ∨ x = 2 ∨ x = 4) (fun σ k => f_X11_view k 0 lZ σ) (fun τ k => x_view k 0 (fun _ => 0) τ) (fun _ _ => True) := cPr_T (cPq_R (hp_viewE hj))
end DZN
end JnS565
section JnS566
/-! The house behind the machine and behind showing (made by rs566.py). -/
section DZO
variable {σ s s1 : CS} {b : Bool} {N M n sz sz' V j : Nat} {c c' : Ct} {gl : List Gn} {pr : Nat → Nat} {XE : XEt} {L : LV} {x : Int32} {g : Nat → Prop}
/-- what machine and showing leave of the house -/
def HfN (σ s : CS) : Prop := (∀ i, 3700 ≤ i → ¬ (i = 7511 ∨ i = 7517 ∨ i = 7518 ∨ i = 7519) → s.1 i = σ.1 i) ∧ (∀ k, k = 38 ∨ (41 ≤ k ∧ k ≤ 64) ∨ (69 ≤ k ∧ k ≤ 74) → s.2.2.1 k = σ.2.2.1 k ∧ sN s k = sN σ k) ∧ s.2.2.2.1 = σ.2.2.2.1 ∧ (sCur s = sCur σ ∧ sOt s = sOt σ ∧ sKd s = sKd σ)
theorem HfN_sw (h : SwF σ s) : HfN σ s := by
  obtain ⟨k1, k2, k3, k4, k5, k6⟩ := SwF_M h
  exact ⟨fun i h1 h2 => k1 i h1 (by omega), fun k hk => k2 k (by omega), h.2.1.2.2, k3, k4, k6⟩
theorem HfN_9 : HfN σ (uI σ 7519 x) := ⟨fun i _ h2 => uI_o (by omega), fun _ _ => ⟨rfl, rfl⟩, rfl, ⟨rfl, rfl, rfl⟩⟩
theorem HfN_t {s2 : CS} (a : HfN σ s) (d : HfN s s2) : HfN σ s2 := ⟨fun i h1 h2 => (d.1 i h1 h2).trans (a.1 i h1 h2), fun k hk => ⟨(d.2.1 k hk).1.trans (a.2.1 k hk).1, (d.2.1 k hk).2.trans (a.2.1 k hk).2⟩, d.2.2.1.trans a.2.2.1, ⟨d.2.2.2.1.trans a.2.2.2.1, d.2.2.2.2.1.trans a.2.2.2.2.1, d.2.2.2.2.2.trans a.2.2.2.2.2⟩⟩
theorem HfN_m (h : MFr σ s) : HfN σ s := by
  obtain ⟨h1, h2, h3, h4, h5⟩ := h
  have e5 : s.2.2.2.2.2.1 = σ.2.2.2.2.2.1 := h5
  refine ⟨fun i a b => h1 i (by omega), fun k hk => h3 k (fun z => by unfold rwM at z; omega), h4, ⟨?_, ?_, ?_⟩⟩
  · show s.2.2.2.2.2.1.1 = _; rw [e5]
  · show s.2.2.2.2.2.1.2.1 = _; rw [e5]
  · show s.2.2.2.2.2.1.2.2.2.2 = _; rw [e5]
theorem HfN_cM (h : HfN σ s) : cM c b s = cM c b σ := by
  have p13 := pR_13 b
  have p0 := pR0_c (sKd σ b)
  have kd := h.2.2.2.2.2
  unfold cM
  show (s.2.2.1 (pR0 (sKd s b)), sN s (pR0 (sKd s b)), (fun u => uN (s.2.2.1 (pR13 b) u)), (fun u => uN (s.2.2.1 (pR14 b) u)), (fun u => uN (s.2.2.1 (pR18 b) u)), tcK c, tcD c) = _
  rw [kd, (h.2.1 (pR0 (sKd σ b)) (by omega)).1, (h.2.1 (pR0 (sKd σ b)) (by omega)).2, (h.2.1 (pR13 b) (by omega)).1, (h.2.1 (pR14 b) (by omega)).1, (h.2.1 (pR18 b) (by omega)).1]
theorem HfN_CdL (h : HfN σ s) (cd : CdL b sz σ) : CdL b sz s := by
  have p0 := pR0_c (sKd σ b)
  have kd := h.2.2.2.2.2
  have fc := fP_c b 1
  have en : cdn b s = cdn b σ := by
    show sN s (pR0 (sKd s b)) = sN σ (pR0 (sKd σ b))
    rw [kd, (h.2.1 (pR0 (sKd σ b)) (by omega)).2]
  exact ⟨(h.1 _ (by omega) (by omega)).trans cd.1, by rw [en]; exact cd.2.1, by rw [en, (h.2.1 43 (by omega)).2, (h.2.1 51 (by omega)).2]; exact cd.2.2⟩
theorem HfN_pg (h : HfN σ s) (p : PgI gl pr b sz V c σ) : PgI gl pr b sz V c s := by
  have p13 := pR_13 b
  have p0 := pR0_c (sKd σ b)
  have kd := h.2.2.2.2.2
  have fc := fP_c b 2
  have fc11 := fP_c b 11
  obtain ⟨E, nu, vg, e0, MD, e, ⟨tb, de⟩, ⟨ut, r18⟩, pg, ⟨eN, cd⟩, ⟨en1, en2, en3⟩, vw⟩ := p
  have rr : ∀ k, 41 ≤ k ∧ k ≤ 64 ∨ 69 ≤ k ∧ k ≤ 74 → s.2.2.1 k = σ.2.2.1 k := fun k hk => (h.2.1 k (by omega)).1
  refine ⟨E, nu, vg, e0, MD, e, ⟨TbR_s tb (h.1 _ (by omega) (by omega)) (by rw [h.2.2.1]) (by rw [h.2.2.1]) (rr _ (by omega)) (rr _ (by omega)) (rr _ (by omega)) (rr _ (by omega)), de⟩, ⟨fun i hi => ?_, by rw [rr _ (by omega)]; exact r18⟩, pg, ⟨eN, fun i hi => ?_⟩, ⟨(h.1 _ (by omega) (by omega)).trans en1, en2, en3⟩, fun i hi => by rw [rr 64 (by omega)]; exact vw i hi⟩
  · rw [rr (pR13 b) (by omega), rr (pR14 b) (by omega), rr (pR18 b) (by omega), rr (pR15 b) (by omega)]
    exact ut i hi
  · rw [← cd i hi]
    show s.2.2.1 (pR0 (sKd s b)) i = σ.2.2.1 (pR0 (sKd σ b)) i
    rw [kd, rr _ (by omega)]
theorem IC_runN (h : IC XE j σ) (hj : j < 512) (h10 : ¬ σ.1 7510 = 0) (fr : HfN σ s) (hp : sPr s = some (sCur σ)) (q17 : uN (s.1 7517) ≤ sN s 66) (q18 : uN (s.1 7518) ≤ 2) (hm : ∃ (sz : Nat) (gl : List Gn) (pr : Nat → Nat) (c : Ct), XE = some (gl, pr) ∧ PgI gl pr (sCur σ) sz (uN (σ.1 7513)) c σ ∧ CdL (sCur σ) sz σ ∧ Mst (cM c (sCur σ) σ) s ∧ uN (s.1 1903) ≤ 20000 * (j + 1)) : IC XE (j + 1) s := by
  obtain ⟨n, sz, ⟨t1, t2, t3, t4⟩, ⟨p1, p2, p3, p4, p5, p6⟩, ⟨q1, q2, q3⟩, ⟨m1, m2⟩, pp⟩ := h
  obtain ⟨sz', gl, pr, c, k2, k3, y3, ms, bg⟩ := hm
  have k0 := h10
  obtain rfl : sz' = sz := by
    have w := u_eq.1 (y3.1.symm.trans p5.1)
    have l1 := cdn_le y3
    have l2 := y3.2.1
    have l3 := p5.2.1
    rw [u_n (by omega), u_n (by omega)] at w
    exact w
  have ff := fr.1
  have sc := fr.2.2.2.1
  refine ⟨n, sz', ⟨?_, (ff 3701 (by decide) (by decide)).trans t2, by omega, by rw [fr.2.2.1]; exact t4⟩, ⟨by rw [sc, fr.2.2.2.2.1]; exact p1, fun d => ?_, by rw [(fr.2.1 41 (by omega)).2]; exact p3, by rw [(fr.2.1 42 (by omega)).2]; exact p4, by rw [sc]; exact HfN_CdL fr p5, by omega⟩, ⟨q17, q18, by rw [ff 7513 (by decide) (by decide)]; exact q3⟩, ⟨Hmx_of ms, ms.1⟩, ?_⟩
  · unfold tOK at t1 ⊢
    rw [ff 3701 (by decide) (by decide), (fr.2.1 38 (by omega)).1, (fr.2.1 38 (by omega)).2]
    exact t1
  · have p13 := pR_13 d
    exact ⟨by rw [(fr.2.1 _ (by omega)).1]; exact (p2 d).1, by rw [(fr.2.1 _ (by omega)).1]; exact (p2 d).2⟩
  · rw [ff 7510 (by decide) (by decide), ff 7513 (by decide) (by decide), sc]
    exact Or.inr ⟨k0, gl, pr, c, k2, HfN_pg fr k3, fun _ => ⟨hp, by rw [HfN_cM fr]; exact ms, bg⟩⟩
theorem IC_cl0 (t3 : n ≤ 20 * j) (t4 : σ.2.2.2.1 39 = lxW) (p1 : sOt σ = !(sCur σ)) (p2 : ∀ b, σ.2.2.1 (pR18 b) 41 = 0 ∧ σ.2.2.1 (pR14 b) 41 = 0) (p4 : sN σ 42 = 64 ∨ sN σ 42 = 16384) (p6 : 2 * sz + 7 * (n + 20 * (512 - j)) ≤ 71682) (q1 : uN (σ.1 7517) ≤ sN σ 66) (q2 : uN (σ.1 7518) ≤ 2) (m1 : Hmx σ) (m2 : BY False σ) (k0 : ¬ σ.1 7510 = 0) (hX : XE = some (gl, pr)) (k4 : ¬ σ.1 7511 = 0 → sPr σ = some (sCur σ) ∧ Mst (cM c (sCur σ) σ) σ ∧ uN (σ.1 1903) ≤ 20000 * j) (hj : j < 512) (rx : RxF (sCur σ) N M n σ s1) (vr : VwZ s1 s) (e37 : s.1 3701 = 0) (h67 : ∀ g : Nat → Prop, (∀ i, i < 27 → Gv g (σ.2.2.1 67 i)) → ∀ i, i < 27 → Gv g (s.2.2.1 67 i)) (v8 : uN (s.1 7513) ≤ 8) (cd' : CdL (sCur σ) sz' s) (bd : 2 * sz' ≤ 2 * sz + 7 * n) (kk : tcK c' = tcK c) (dd : ∀ p x, tcD c p = some x → tcD c' p = some x) (pg' : PgI gl pr (sCur σ) sz' (uN (s.1 7513)) c' s) : IC XE j s := by
  have fc1 := fP_c (sCur σ) 1
  have fc11 := fP_c (sCur σ) 11
  have fc19 := fP_c (sCur σ) 19
  have p13 := pR_13 (sCur σ)
  have px := vr_x rx vr
  have by0 := vr_by rx vr m2
  have sc : sCur s = sCur σ := by show s.2.2.2.2.2.1.1 = _; rw [vr.2.2.2]; exact rx.2.2.1.1.1
  have so : sOt s = sOt σ := by show s.2.2.2.2.2.1.2.1 = _; rw [vr.2.2.2]; exact rx.2.2.1.1.2.1
  have sp : sPr s = sPr σ := by show s.2.2.2.2.2.1.2.2.1 = _; rw [vr.2.2.2]; exact rx.2.2.1.1.2.2
  have ff : ∀ i, ¬ (i = 404 ∨ (3701 ≤ i ∧ i ≤ 3704) ∨ (4003 ≤ i ∧ i ≤ 4020) ∨ (5000 ≤ i ∧ i ≤ 5019) ∨ (6800 ≤ i ∧ i ≤ 6819) ∨ i = 7512 ∨ i = 7513 ∨ i = 7519) → s.1 i = σ.1 i := fun i hi => (vr.1 i (by omega)).trans (rx.1.1 i (by omega))
  have nn := vr_n vr
  have e10 : s.1 7510 = σ.1 7510 := ff 7510 (by decide)
  have e11 : s.1 7511 = σ.1 7511 := ff 7511 (by decide)
  have hm : Hmx s ∧ (¬ s.1 7511 = 0 → sPr s = some (sCur s) ∧ Mst (cM c' (sCur s) s) s ∧ uN (s.1 1903) ≤ 20000 * j) := by
    by_cases c11 : σ.1 7511 = 0
    · obtain ⟨g, l, t, K4, hb⟩ := m1
      exact ⟨⟨g, l, t, K4, Hmb_xx px (h67 g (fun i hi => (hb.2.2.2.1 i hi).2.1 rfl)) hb⟩, fun z => absurd (e11.trans c11) z⟩
    · obtain ⟨y1, y2, y3⟩ := k4 c11
      obtain ⟨g, l, t, mg⟩ := Mst_G y2
      have mg2 := MsG_xx (vr_ct rx vr (p2 _).1 (p2 _).2 kk dd) px (ct_M (c := c') (sp.trans y1)) by0 (h67 g (MsG_v mg).2) mg
      have ms2 := Mst_of mg2
      have e9 : s.1 1903 = σ.1 1903 := ff 1903 (by decide)
      exact ⟨Hmx_of ms2, fun _ => ⟨by rw [sc]; exact sp.trans y1, by rw [sc]; exact ms2, by rw [e9]; exact y3⟩⟩
  have lx : s.2.2.2.1 39 = lxW := by rw [vr.2.2.2, rx.2.1.2.2 39 (by omega)]; exact t4
  refine ⟨0, sz', ⟨vr_ok rx vr e37, e37, Nat.zero_le _, lx⟩, ⟨by rw [sc, so]; exact p1, fun d => vr_0 rx vr p2 d, by rw [nn]; exact rx.2.2.2.2.2.2.2.1, by rw [nn, rx.2.1.2.1 42 (by omega)]; exact p4, by rw [sc]; exact cd', by omega⟩, ⟨by rw [ff 7517 (by decide), nn, rx.2.1.2.1 66 (by omega)]; exact q1, by rw [ff 7518 (by decide)]; exact q2, v8⟩, ⟨hm.1, by0⟩, Or.inr ⟨by rw [e10]; exact k0, gl, pr, c', hX, by rw [sc]; exact pg', hm.2⟩⟩
end DZO
end JnS566
section JnS567
/-! The house: work, on both sides. -/
section DZP
variable {σ s s1 : CS} {τ : MS} {b : Bool} {N M n sz sz' V j : Nat} {c c' : Ct} {gl : List Gn} {pr : Nat → Nat} {XE : XEt}
theorem rj_workN {J : Nat → Int64} {L : Nat → Int32} (h : RfJ XE j τ) (c : τ.1 112 = 0) : Tm (fun k => x_work k 0 L J τ) (fun r => RfJ XE (j + 1) r.2 ∧ KpT τ r.2 ∧ r.2.1 11 = τ.1 11) := by
  refine Tm_suc (fun k => by rw [x_work]) ?_
  refine Tm_ite (fun _ => ?_) (fun z => absurd c z)
  refine Tm_suc (fun k => by rw [x_work]) ?_
  refine Tm_suc (fun k => by rw [x_work]) ?_
  refine Tm_ob (s_good _ _) (fun r hr => ?_)
  rw [hr]
  refine Tm_ite (fun _ => ?_) (fun z => absurd rfl z)
  exact Tm_some ⟨RfJ_2 h, KpT_2, rfl⟩
def WkQ (j : Nat) (σ : CS) (τ : MS) (r : RS) : Prop := (r.1.1 = 0 ∨ r.1.1 = 2) ∧ r.2.2.1 + PhC r.2.1 ≤ PhC σ + 2 ∧ r.2.2.2 + PhS r.2.1 ≤ PhS σ + 12 ∧ Tm (fun k => x_work k 0 (fun _ => 0) (fun _ => 0) τ) (fun q => IB (j + 1) r.2.1 q.2 ∧ True ∧ FK σ τ r q)
theorem hp_workE (hj : j < 512) : cPq j (fun x => x = 0 ∨ x = 2) (fun σ k => f_X11_work k 0 lZ σ) (fun τ k => x_work k 0 (fun _ => 0) (fun _ => 0) τ) (fun _ _ => True) FK := by
  intro σ τ h
  have h0 := h
  obtain ⟨XE, ic, rf, tr, e10, e11, e13⟩ := h
  show Tm (fun k => f_X11_work k 0 lZ σ) (WkQ j σ τ)
  refine Tm_suc (fun k => by rw [f_X11_work]) ?_
  refine Tm_wr (fun z => ?_) (fun nz => ?_)
  · exact ⟨Or.inr rfl, by show 1 + PhC σ ≤ _; omega, by show 6 + PhS σ ≤ _; omega, IB_k3 (gM := fun k => x_work k 0 (fun _ => 0) (fun _ => 0) τ) h0 hj (fun XE rf => Tm_mono (rj_workN rf (e11.1 z)) (fun r w => ⟨w.1, w.2.1, trivial, Or.inr ⟨rfl, w.2.2⟩⟩))⟩
  have n112 : ¬ τ.1 112 = 0 := fun z => nz (e11.2 z)
  obtain ⟨n, sz, ⟨t1, t2, t3, t4⟩, ⟨p1, p2, p3, p4, p5, p6⟩, ⟨q1, q2, q3⟩, ⟨m1, m2⟩, pp⟩ := ic
  obtain ⟨k0, gl, pr, cc, hX, pg, k4⟩ := pp.resolve_left (fun z => nz z.2.1)
  obtain ⟨qq, kq, hq, w1, ⟨w2, w3, w4⟩, _, w5⟩ := rj_work (L := fun _ => 0) (J := fun _ => 0) rf
  obtain ⟨q4, n', g, bt, x, tp, eg, hG, hv⟩ := w5 n112
  obtain rfl : n = n' := (nI_inj (tp.1.1.symm.trans (tr.1.symm.trans t2)) (by have := tp.1.2; omega) (by omega)).symm
  rw [hX] at eg
  cases eg
  obtain ⟨y1, y2, y3⟩ := k4 nz
  obtain ⟨E, nu, vg, e0, MD, ⟨e1, e2⟩, ⟨tb, de⟩, ⟨ut, r18⟩, pgt, ⟨eN, hc⟩, en, vw⟩ := pg
  subst e1
  subst e2
  have fn := fP_ns (sCur σ)
  have fc1 := fP_c (sCur σ) 1
  have fc2 := fP_c (sCur σ) 2
  have fc11 := fP_c (sCur σ) 11
  have fc19 := fP_c (sCur σ) 19
  have p13 := pR_13 (sCur σ)
  have nu40 := de.2.1.2.2.1
  have vg60 := de.2.1.2.1
  have re := c_readExp (b := sCur σ) (N := sz) (ρ := τ) (al := 1) (L := lI (lB lZ 1 (sCur σ)) 2 1) t1 t2 (by omega) t4 tr p5 p3 tb de pgt.2.2 ut (by omega) rfl rfl (by omega) hG
  refine Tm_oxc re (fun r z => z.1) (fun r1 z1 => ?_)
  obtain ⟨z1, z2, rx, z11, zn, zy⟩ := z1
  rw [Nat.zero_add, Nat.zero_add] at z2
  show Tm (fun k => f_X11_work k 1 (lI (lI lZ 1 (σ.1 (fP (sCur σ) 1))) 2 r1.1.2) (uI (uI (uI r1.2.1 3701 0) 7512 ((uI r1.2.1 3701 0).1 4006)) 7519 0)) _
  rw [p5.1]
  generalize hs2 : uI (uI (uI r1.2.1 3701 0) 7512 ((uI r1.2.1 3701 0).1 4006)) 7519 0 = s2
  have vr2 : VwZ r1.2.1 s2 := by
    rw [← hs2]
    exact ⟨fun j hj => by rw [uI_o (by omega), uI_o (by omega), uI_o (by omega)], rfl, fun _ _ => rfl, rfl⟩
  have r2 : ∀ k, s2.2.2.1 k = r1.2.1.2.2.1 k := fun k => by rw [← hs2]; rfl
  have f37 : s2.1 3701 = 0 := by rw [← hs2, uI_o (by decide), uI_o (by decide), uI_s]
  have f13 : s2.1 7513 = σ.1 7513 := by
    rw [← hs2, uI_o (by decide), uI_o (by decide), uI_o (by decide)]
    exact rx.1.1 7513 (by omega)
  have f12 : s2.1 7512 = r1.2.1.1 4006 := by rw [← hs2, uI_o (by decide), uI_s, uI_o (by decide)]
  have ph2 := Ph_s (σ := r1.2.1) (σ' := s2) (by rw [← hs2]; rfl)
  clear hs2
  have ff : ∀ i, i = 7510 ∨ i = 7511 → r1.2.1.1 i = σ.1 i := fun i hi => rx.1.1 i (by omega)
  have r64 : s2.2.2.1 64 = σ.2.2.1 64 := (r2 64).trans (rx.2.1.1 64 (by omega))
  have r67 : s2.2.2.1 67 = σ.2.2.1 67 := (r2 67).trans (rx.2.1.1 67 (by omega))
  -- the same with the code's end as before
  have rx' : RxF (sCur σ) sz (tbE 0 E).length n σ (uI r1.2.1 (fP (sCur σ) 1) (nI sz)) := RxF_u rx (fun j hj => uI_o (by omega)) rfl
  have vr' : VwZ (uI r1.2.1 (fP (sCur σ) 1) (nI sz)) (uI s2 (fP (sCur σ) 1) (nI sz)) := by
    refine ⟨fun j hj => ?_, vr2.2.1, vr2.2.2.1, vr2.2.2.2⟩
    by_cases e : j = fP (sCur σ) 1
    · rw [e, uI_s, uI_s]
    · rw [uI_o e, uI_o e]; exact vr2.1 j hj
  have z11' : (uI r1.2.1 (fP (sCur σ) 1) (nI sz)).1 (fP (sCur σ) 11) = nI (tbE 0 E).length := by rw [uI_o (by omega)]; exact z11
  have f37' : (uI s2 (fP (sCur σ) 1) (nI sz)).1 3701 = 0 := by rw [uI_o (by omega)]; exact f37
  have f13' : (uI s2 (fP (sCur σ) 1) (nI sz)).1 7513 = σ.1 7513 := by rw [uI_o (by omega)]; exact f13
  have pg' : PgI E.1 E.2.2.2.2.2.2 (sCur σ) sz (uN ((uI s2 (fP (sCur σ) 1) (nI sz)).1 7513)) cc (uI s2 (fP (sCur σ) 1) (nI sz)) := vr_pg rx' vr' z11' r64 tb de ut r18 pgt eN hc en (by rw [f13']; exact vw)
  have cd' : CdL (sCur σ) sz (uI s2 (fP (sCur σ) 1) (nI sz)) := by
    obtain ⟨_, e2⟩ := vr_cd rx' vr'
    exact ⟨uI_s, by rw [e2]; exact rx'.2.2.2.2.2.2.1.1, by rw [e2, vr_n vr']; exact rx'.2.2.2.2.2.2.1.2⟩
  -- the reference
  have fin : ∀ r : RS, r.1.1 = 0 → IC XE (j + 1) r.2.1 → r.2.1.1 3701 = 0 → (∀ i, i = 7510 ∨ i = 7511 ∨ i = 7513 → r.2.1.1 i = σ.1 i) → r.2.1.1 7512 = qq.2.1 11 → r.2.2.1 + PhC r.2.1 ≤ PhC σ + 2 → r.2.2.2 + PhS r.2.1 ≤ PhS σ + 12 → WkQ j σ τ r := fun r a1 a2 a3 a4 a7 a5 a6 =>
    ⟨Or.inl a1, a5, a6, qq, kq, hq, ⟨XE, a2, w1, tRel_0 a3 q4, by rw [a4 7510 (by omega), w3]; exact e10, by rw [a4 7511 (by omega), w4]; exact e11, by rw [a4 7513 (by omega), w2]; exact e13⟩, trivial, Or.inl a7⟩
  cases x with
  | inl yf =>
    obtain ⟨⟨u1, u2⟩, u6, _⟩ := zn yf rfl
    refine Tm_suc (fun k => by rw [f_X11_work]) ?_
    refine Tm_yes (lI_same.trans u1) ?_
    have cd2 : CdL (sCur σ) sz s2 := by
      obtain ⟨_, e2⟩ := vr_cd rx vr2
      exact ⟨by rw [vr2.1 _ (by omega)]; exact u2, by rw [e2]; exact rx.2.2.2.2.2.2.1.1, by rw [e2, vr_n vr2]; exact rx.2.2.2.2.2.2.1.2⟩
    have pg2 : PgI E.1 E.2.2.2.2.2.2 (sCur σ) sz (uN (s2.1 7513)) cc s2 := vr_pg rx vr2 z11 r64 tb de ut r18 pgt eN hc en (by rw [f13]; exact vw)
    have ic2 : IC XE (j + 1) s2 := IC_cl t3 t4 p1 p2 p4 p6 q1 q2 m1 m2 k0 hX k4 hj rx vr2 f37 (fun g hg => by rw [r67]; exact hg) (by rw [f13]; exact q3) cd2 (by omega) rfl (fun _ _ z => z) pg2
    refine Tm_some (fin _ rfl ic2 f37 (fun i hi => ?_) (show s2.1 7512 = qq.2.1 11 by rw [f12, u6, (hv.1 _ rfl).2]) (by show r1.2.2.1 + 0 + PhC s2 ≤ _; omega) (by show r1.2.2.2 + 0 + PhS s2 ≤ _; omega))
    show s2.1 i = σ.1 i
    rcases hi with rfl | rfl | rfl
    · rw [vr2.1 7510 (by decide)]; exact ff 7510 (by omega)
    · rw [vr2.1 7511 (by decide)]; exact ff 7511 (by omega)
    · exact f13
  | inr t =>
    obtain ⟨⟨u1, u6⟩, cs, cd2, u3, u4, sg, ln⟩ := zy t rfl
    refine Tm_suc (fun k => by rw [f_X11_work]) ?_
    refine Tm_no (by rw [lI_same, u1]; decide) ?_
    refine Tm_suc (fun k => by rw [f_X11_work]) ?_
    have icS : IC XE j (uI s2 (fP (sCur σ) 1) (nI sz)) := IC_cl0 t3 t4 p1 p2 p4 p6 q1 q2 m1 m2 k0 hX k4 hj rx' vr' f37' (fun g hg => by rw [show (uI s2 (fP (sCur σ) 1) (nI sz)).2.2.1 67 = σ.2.2.1 67 from r67]; exact hg) (by rw [f13']; exact q3) cd' (by omega) rfl (fun _ _ z => z) pg'
    obtain ⟨ec, e2⟩ := vr_cd rx vr2
    have l36 : sz + cs.length + 1 ≤ 36864 := by omega
    obtain ⟨D, pgt', hD, dd, dd2⟩ := Un_v (C := cdr (sCur σ) s2) pgt nu40 (Nat.zero_le _) sg (by rw [eN]; exact l36) (by rw [eN]; exact fun i hi => (ec i).trans ((rx.2.2.2.2.2.1 i hi).1.trans (hc i hi))) (by rw [eN]; exact fun i hi => (ec _).trans (u3 i hi)) (by rw [eN]; exact (ec _).trans u4)
    rw [eN] at pgt' hD dd2
    have z0 := vr_0 rx vr2 p2 (sCur σ)
    have ck0 : CkA (cM cc (sCur σ) s2) := ck_M (σ := uI s2 (fP (sCur σ) 1) (nI sz)) pg' cd' z0.1
    obtain ⟨ck, up, dn⟩ := ck_R (C := cdr (sCur σ) s2) (M := sz + cs.length + 1) (D := D) ck0 pgt eN (vr_ut rx vr2 nu40 ut) ((vr_18 rx vr2).trans r18) vg60 nu40 pgt' (fun i hi => rfl) (by rw [e2]; exact cd2.2.1) z0.1 dd dd2
    have px := vr_x rx vr2
    have by2 := vr_by rx vr2 m2
    have sp2 : sPr s2 = sPr σ := by show s2.2.2.2.2.2.1.2.2.1 = _; rw [vr2.2.2.2]; exact rx.2.2.1.1.2.2
    have sc2 : sCur s2 = sCur σ := by show s2.2.2.2.2.2.1.1 = _; rw [vr2.2.2.2]; exact rx.2.2.1.1.1
    obtain ⟨g0, l0, t0, mg⟩ := Mst_G y2
    have mg2 := MsG_xx (vr_ct (c := cc) (c' := mkc cc (cdr (sCur σ) s2) (sz + cs.length + 1) (rsD sz D)) rx vr2 (p2 _).1 (p2 _).2 rfl up) px (ct_M (sp2.trans y1)) by2 (by rw [r67]; exact (MsG_v mg).2) mg
    have env : EnV (cM (mkc cc (cdr (sCur σ) s2) (sz + cs.length + 1) (rsD sz D)) (sCur σ) s2) (uN (nI sz)) := by
      refine ⟨by show uN (s2.2.2.1 (pR18 (sCur σ)) 41) = 0; rw [z0.1]; rfl, RK, Nat.le_refl _, ?_⟩
      rw [u_n (by omega)]
      exact rsD_2 hD (Or.inl rfl)
    refine Tm_oxc (c_evaluate (L := lI lZ 1 (nI sz)) (Mst_of mg2) ck env) (fun r z => z.1) (fun r3 z3 => ?_)
    obtain ⟨v1, v2, v3, v4, g, l, t', mg3, gw⟩ := z3
    have hn3 := HfN_m v4
    have sc3 : sCur r3.2.1 = sCur σ := hn3.2.2.2.1.trans sc2
    show Tm (fun k => op (y_X11_isError k 0 (lI lZ 0 r3.1.2) (uI (uI r3.2.1 (fP (sCur r3.2.1) 1) (nI sz)) 7519 ((uI r3.2.1 (fP (sCur r3.2.1) 1) (nI sz)).1 1819))) (fun r2 => f_X11_work k 3 (lI (lI (lI (lI lZ 1 (nI sz)) 2 r1.1.2) 3 r3.1.2) 100 r2.1) r2.2)) _
    rw [sc3]
    generalize hs5 : uI (uI r3.2.1 (fP (sCur σ) 1) (nI sz)) 7519 ((uI r3.2.1 (fP (sCur σ) 1) (nI sz)).1 1819) = s5
    have g1 : ∀ i, ¬ (i = fP (sCur σ) 1 ∨ i = 7519) → s5.1 i = r3.2.1.1 i := fun i hi => by rw [← hs5, uI_o (by omega), uI_o (by omega)]
    have g1f : s5.1 (fP (sCur σ) 1) = nI sz := by rw [← hs5, uI_o (by omega), uI_s]
    have g2 : s5.2 = r3.2.1.2 := by rw [← hs5]; rfl
    clear hs5
    have px5 : PFx r3.2.1 s5 := ⟨⟨fun j hj h4 => g1 j (by omega), fun j _ => by rw [g2]⟩, fun k hk => ⟨by rw [g2], by show s5.2.2.2.2.1 k = _; rw [g2]⟩, by rw [g2]⟩
    have by5 : BY False s5 := by
      have b3 := mg3.1
      unfold BY at b3 ⊢
      rw [show sN s5 = sN r3.2.1 by show s5.2.2.2.2.1 = _; rw [g2], g2, g1 1812 (by omega), g1 1813 (by omega), g1 1907 (by omega)]
      exact b3
    have h5 : HfN (uI s2 (fP (sCur σ) 1) (nI sz)) s5 := by
      refine ⟨fun i h1 h2 => ?_, fun k hk => ?_, ?_, ?_⟩
      · by_cases e : i = fP (sCur σ) 1
        · rw [e, g1f, uI_s]
        · rw [g1 i (by omega), uI_o e]; exact hn3.1 i h1 h2
      · rw [g2, show sN s5 k = sN r3.2.1 k by show s5.2.2.2.2.1 k = _; rw [g2]]
        exact hn3.2.1 k hk
      · rw [g2]; exact hn3.2.2.1
      · refine ⟨?_, ?_, ?_⟩
        · show s5.2.2.2.2.2.1.1 = _; rw [g2]; exact hn3.2.2.2.1
        · show s5.2.2.2.2.2.1.2.1 = _; rw [g2]; exact hn3.2.2.2.2.1
        · show s5.2.2.2.2.2.1.2.2.2.2 = _; rw [g2]; exact hn3.2.2.2.2.2
    have cM5 : cM cc (sCur σ) s5 = cM cc (sCur σ) s2 := (HfN_cM h5).trans rfl
    have sp5 : sPr s5 = some (sCur σ) := by
      show s5.2.2.2.2.2.1.2.2.1 = _
      rw [g2]
      show r3.2.1.2.2.2.2.2.1.2.2.1 = _
      rw [v4.2.2.2.2]
      exact sp2.trans y1
    have ctl : CtL2 (cM (mkc cc (cdr (sCur σ) s2) (sz + cs.length + 1) (rsD sz D)) (sCur σ) s2) (cM cc (sCur σ) s5) := by
      rw [cM5]
      exact ⟨rfl, rfl, rfl, pgt.2.2.2.1.2.2.1, dn⟩
    have mg5 := MsG_nn ctl px5 (ct_M sp5) by5 (by rw [g2]; exact (MsG_v mg3).2) mg3
    have e9 : s5.1 1903 = σ.1 1903 := by
      rw [g1 1903 (by omega), v2, vr2.1 1903 (by omega), rx.1.1 1903 (by omega)]
    have e5 : ∀ i, i = 7517 ∨ i = 7518 ∨ i = 3701 ∨ i = 7510 ∨ i = 7511 ∨ i = 7513 ∨ i = 7512 → s5.1 i = s2.1 i := fun i hi => by rw [g1 i (by omega)]; exact v4.1 i (by omega)
    have e7 : ∀ i, i = 7517 ∨ i = 7518 ∨ i = 7510 ∨ i = 7511 ∨ i = 7513 → s2.1 i = σ.1 i := fun i hi => by
      by_cases e : i = 7513
      · rw [e]; exact f13
      · rw [vr2.1 i (by omega)]; exact rx.1.1 i (by omega)
    have n66 : sN s5 66 = sN σ 66 := by
      show s5.2.2.2.2.1 66 = _
      rw [g2]
      rw [show r3.2.1.2.2.2.2.1 66 = sN s2 66 from (v4.2.2.1 66 (by unfold rwM; omega)).2, vr_n vr2, rx.2.1.2.1 66 (by omega)]
    have q17 : uN (s5.1 7517) ≤ sN s5 66 := by rw [e5 7517 (by omega), e7 7517 (by omega), n66]; exact q1
    have q18 : uN (s5.1 7518) ≤ 2 := by rw [e5 7518 (by omega), e7 7518 (by omega)]; exact q2
    have scS : sCur (uI s2 (fP (sCur σ) 1) (nI sz)) = sCur σ := sc2
    have close : ∀ s, HfN (uI s2 (fP (sCur σ) 1) (nI sz)) s → sPr s = some (sCur σ) → uN (s.1 7517) ≤ sN s 66 → uN (s.1 7518) ≤ 2 → Mst (cM cc (sCur σ) s2) s → uN (s.1 1903) ≤ 20000 * (j + 1) → IC XE (j + 1) s := fun s h1 h2 h3 h4 h5 h6 => by
      refine IC_runN icS hj ?_ h1 (by rw [scS]; exact h2) h3 h4 ⟨sz, E.1, E.2.2.2.2.2.2, cc, hX, by rw [scS]; exact pg', by rw [scS]; exact cd', by rw [scS]; exact h5, h6⟩
      rw [uI_o (by omega), e7 7510 (by omega)]
      exact k0
    have ph5 := Ph_s (σ := r3.2.1) (σ' := s5) (by rw [g2])
    have co1 : r3.2.2.1 + PhC r3.2.1 ≤ PhC s2 := v3.1
    have co2 : r3.2.2.2 + PhS r3.2.1 ≤ PhS s2 := v3.2
    refine Tm_op (c_isError (L := lI lZ 0 r3.1.2) (σ := s5)) (fun r5 z5 => ?_)
    obtain ⟨⟨x1, x2⟩, _, x4⟩ := z5
    rw [x1]
    refine Tm_suc (fun k => by rw [f_X11_work]) ?_
    refine Tm_ite (fun cE => ?_) (fun cE => ?_)
    · have gv : Gv g r3.1.2 := by
        rcases gw with z | z
        · exact z
        · exact absurd z (x4.1 (lI_same.symm.trans cE))
      refine Tm_suc (fun k => by rw [f_X11_work]) ?_
      refine Tm_oxc (c_show (g := g) (L := lI lZ 1 r3.1.2) (MsG_v mg5).1 (MsG_v mg5).2 by5 q18 gv) (fun r z => z.1) (fun r6 z6 => ?_)
      obtain ⟨b1, b2, b3, b4, b5, b6, b7⟩ := z6
      have mg6 := MsG_xx (c1 := cM cc (sCur σ) s5) (c2 := cM cc (sCur σ) s5) ⟨rfl, rfl, rfl, fun _ _ z => z⟩ (SwF_x b3) (by
        have := ct_M (c := cc) (b := sCur σ) (σ := r6.2.1) ((SwF_M b3).2.2.2.2.1.trans sp5)
        rw [Sw_cM b3] at this
        exact this) b5 b4 mg5
      have ms6 := Mst_of mg6
      rw [cM5] at ms6
      have h6 := HfN_t h5 (HfN_sw b3)
      have e96 : r6.2.1.1 1903 = s5.1 1903 := b3.1.1 1903 (by decide)
      have ic6 := close r6.2.1 h6 ((SwF_M b3).2.2.2.2.1.trans sp5) b6 b7 ms6 (by rw [e96, e9]; omega)
      have co3 : r6.2.2.1 + PhC r6.2.1 ≤ PhC s5 := b2.1
      have co4 : r6.2.2.2 + PhS r6.2.1 ≤ PhS s5 := b2.2
      refine Tm_suc (fun k => by rw [f_X11_work]) ?_
      refine Tm_some (fin _ rfl ic6 ?_ (fun i hi => ?_) ?_ (by show r1.2.2.1 + (r3.2.2.1 + (r6.2.2.1 + 0)) + PhC r6.2.1 ≤ _; omega) (by show r1.2.2.2 + (r3.2.2.2 + (r6.2.2.2 + 0)) + PhS r6.2.1 ≤ _; omega))
      · show r6.2.1.1 3701 = 0
        rw [b3.1.1 3701 (by decide), e5 3701 (by omega)]
        exact f37
      · show r6.2.1.1 i = σ.1 i
        rw [b3.1.1 i (by omega), e5 i (by omega)]
        exact e7 i (by omega)
      · show r6.2.1.1 7512 = qq.2.1 11
        rw [b3.1.1 7512 (by omega), e5 7512 (by omega), f12, u6, hv.2 _ rfl]
    · have ms5 := Mst_of mg5
      rw [cM5] at ms5
      have ic5 := close s5 h5 sp5 q17 q18 ms5 (by rw [e9]; omega)
      refine Tm_suc (fun k => by rw [f_X11_work]) ?_
      refine Tm_some (fin _ rfl ic5 ?_ (fun i hi => ?_) ?_ (by show r1.2.2.1 + (r3.2.2.1 + 0) + PhC s5 ≤ _; omega) (by show r1.2.2.2 + (r3.2.2.2 + 0) + PhS s5 ≤ _; omega))
      · show s5.1 3701 = 0
        rw [e5 3701 (by omega)]
        exact f37
      · show s5.1 i = σ.1 i
        rw [e5 i (by omega)]
        exact e7 i (by omega)
      · show s5.1 7512 = qq.2.1 11
        rw [e5 7512 (by omega), f12, u6, hv.2 _ rfl]
theorem hp_work (hj : j < 512) : cPr j (fun x => x = 0 ∨ x = 2) (fun σ k => f_X11_work k 0 lZ σ) (fun τ k => x_work k 0 (fun _ => 0) (fun _ => 0) τ) (fun _ _ => True) := cPq_R (hp_workE hj)
end DZP
end JnS567
