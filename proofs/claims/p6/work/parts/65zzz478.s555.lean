/-! The house over a value shown; seen. -/
section DZD
variable {σ s : CS} {ρ τ ω : MS} {b : Bool} {sz j n n2 V : Nat} {XE : XEt} {L : LV} {c : Ct} {gl : List Gn} {pr : Nat → Nat}
theorem Sw_cM (h : SwF σ s) : cM c b s = cM c b σ := by
  obtain ⟨m1, m2, m3, m4, m5, m6⟩ := SwF_M h
  have p13 := pR_13 b
  have p0 := pR0_c (sKd σ b)
  unfold cM
  show (s.2.2.1 (pR0 (sKd s b)), sN s (pR0 (sKd s b)), (fun u => uN (s.2.2.1 (pR13 b) u)), (fun u => uN (s.2.2.1 (pR14 b) u)), (fun u => uN (s.2.2.1 (pR18 b) u)), tcK c, tcD c) = _
  rw [m6, (m2 (pR0 (sKd σ b)) (by omega)).1, (m2 (pR0 (sKd σ b)) (by omega)).2, (m2 (pR13 b) (by omega)).1, (m2 (pR14 b) (by omega)).1, (m2 (pR18 b) (by omega)).1]
theorem Sw_CdL (h : SwF σ s) (cd : CdL b sz σ) : CdL b sz s := by
  obtain ⟨m1, m2, m3, m4, m5, m6⟩ := SwF_M h
  have p0 := pR0_c (sKd σ b)
  have fc := fP_c b 1
  have en : cdn b s = cdn b σ := by
    show sN s (pR0 (sKd s b)) = sN σ (pR0 (sKd σ b))
    rw [m6, (m2 (pR0 (sKd σ b)) (by omega)).2]
  exact ⟨(m1 _ (by omega) (by omega)).trans cd.1, by rw [en]; exact cd.2.1, by rw [en, (m2 43 (by omega)).2, (m2 51 (by omega)).2]; exact cd.2.2⟩
theorem Sw_pg (h : SwF σ s) (p : PgI gl pr b sz V c σ) : PgI gl pr b sz V c s := by
  obtain ⟨m1, m2, m3, m4, m5, m6⟩ := SwF_M h
  have p13 := pR_13 b
  have p0 := pR0_c (sKd σ b)
  have fc := fP_c b 2
  have fc11 := fP_c b 11
  obtain ⟨E, nu, vg, e0, MD, e, ⟨tb, de⟩, ⟨ut, r18⟩, pg, ⟨eN, cd⟩, ⟨en1, en2, en3⟩, vw⟩ := p
  have rr : ∀ k, 41 ≤ k ∧ k ≤ 65 ∨ 69 ≤ k ∧ k ≤ 74 → s.2.2.1 k = σ.2.2.1 k := fun k hk => (m2 k (by omega)).1
  refine ⟨E, nu, vg, e0, MD, e, ⟨TbR_s tb (m1 _ (by omega) (by omega)) (by rw [h.2.1.2.2]) (by rw [h.2.1.2.2]) (rr _ (by omega)) (rr _ (by omega)) (rr _ (by omega)) (rr _ (by omega)), de⟩, ⟨fun i hi => ?_, by rw [rr _ (by omega)]; exact r18⟩, pg, ⟨eN, fun i hi => ?_⟩, ⟨(m1 _ (by omega) (by omega)).trans en1, en2, en3⟩, fun i hi => by rw [rr 64 (by omega)]; exact vw i hi⟩
  · rw [rr (pR13 b) (by omega), rr (pR14 b) (by omega), rr (pR18 b) (by omega), rr (pR15 b) (by omega)]
    exact ut i hi
  · rw [← cd i hi]
    show s.2.2.1 (pR0 (sKd s b)) i = σ.2.2.1 (pR0 (sKd σ b)) i
    rw [m6, rr _ (by omega)]
/-- values that are kept, and that the house stands over others of them -/
theorem IC_g (h : IC XE j σ) (hj : j < 512) : ∃ (g : Nat → Prop) (l : List Nat) (t : Nat), HQ g l t σ ∧ (∀ i, i < 27 → Gv g (σ.2.2.1 67 i)) ∧ ∀ s, SwF σ s → (∀ i, i < 27 → Gv g (s.2.2.1 67 i)) → BY False s → uN (s.1 7517) ≤ sN s 66 → uN (s.1 7518) ≤ 2 → IC XE (j + 1) s := by
  obtain ⟨n, sz, ⟨t1, t2, t3, t4⟩, ⟨p1, p2, p3, p4, p5, p6⟩, ⟨q1, q2, q3⟩, ⟨m1, m2⟩, pp⟩ := h
  have rest : ∀ s, SwF σ s → Hmx s → BY False s → uN (s.1 7517) ≤ sN s 66 → uN (s.1 7518) ≤ 2 → (∀ gl pr c, XE = some (gl, pr) → ¬ σ.1 7511 = 0 → sPr σ = some (sCur σ) ∧ Mst (cM c (sCur σ) σ) σ ∧ uN (σ.1 1903) ≤ 20000 * j → PgI gl pr (sCur σ) sz (uN (σ.1 7513)) c σ → ∃ c', PgI gl pr (sCur σ) sz (uN (σ.1 7513)) c' σ ∧ Mst (cM c' (sCur σ) s) s) → IC XE (j + 1) s := fun s fr hm hb e7 e8 mm => by
    obtain ⟨k1, k2, k3, k4, k5, k6⟩ := SwF_M fr
    refine ⟨n, sz, ⟨?_, (k1 3701 (by decide) (by decide)).trans t2, by omega, by rw [fr.2.1.2.2]; exact t4⟩, ⟨by rw [k3, k4]; exact p1, fun d => ?_, by rw [(k2 41 (by omega)).2]; exact p3, by rw [(k2 42 (by omega)).2]; exact p4, by rw [k3]; exact Sw_CdL fr p5, by omega⟩, ⟨e7, e8, by rw [k1 7513 (by decide) (by decide)]; exact q3⟩, ⟨hm, hb⟩, ?_⟩
    · unfold tOK at t1 ⊢
      rw [k1 3701 (by decide) (by decide), (k2 38 (by omega)).1, (k2 38 (by omega)).2]
      exact t1
    · have p13 := pR_13 d
      exact ⟨by rw [(k2 _ (by omega)).1]; exact (p2 d).1, by rw [(k2 _ (by omega)).1]; exact (p2 d).2⟩
    · rw [k1 7510 (by decide) (by decide), k1 7511 (by decide) (by decide), k1 7513 (by decide) (by decide), k3]
      rcases pp with z | ⟨z0, gl, pr, c, z2, z3, z4⟩
      · exact Or.inl z
      · refine Or.inr ⟨z0, ?_⟩
        by_cases c11 : σ.1 7511 = 0
        · exact ⟨gl, pr, c, z2, Sw_pg fr z3, fun y => absurd c11 y⟩
        · obtain ⟨c', y1, y2⟩ := mm gl pr c z2 c11 (z4 c11) z3
          have e9 : s.1 1903 = σ.1 1903 := fr.1.1 1903 (by decide)
          exact ⟨gl, pr, c', z2, Sw_pg fr y1, fun _ => ⟨k5.trans (z4 c11).1, y2, by rw [e9]; have := (z4 c11).2.2; omega⟩⟩
  by_cases c11 : σ.1 7511 = 0
  · obtain ⟨g, l, t, K4, hb⟩ := id m1
    refine ⟨g, l, t, hb.1, fun i hi => (hb.2.2.2.1 i hi).2.1 rfl, fun s fr h67 by0 e7 e8 => ?_⟩
    exact rest s fr ⟨g, l, t, K4, Hmb_xx (SwF_x fr) h67 hb⟩ by0 e7 e8 (fun _ _ _ _ y => absurd c11 y)
  · obtain ⟨z0, gl, pr, c, z2, z3, z4⟩ := pp.resolve_left (fun z => c11 z.2.1)
    obtain ⟨y1, y2, y3⟩ := z4 c11
    obtain ⟨g, l, t, mg⟩ := Mst_G y2
    obtain ⟨hq, hv⟩ := MsG_v mg
    refine ⟨g, l, t, hq, hv, fun s fr h67 by0 e7 e8 => ?_⟩
    obtain ⟨k1, k2, k3, k4, k5, k6⟩ := SwF_M fr
    have e : cM c (sCur σ) s = cM c (sCur σ) σ := Sw_cM fr
    have ct : CtL (cM c (sCur σ) s) s := ct_M (k5.trans y1)
    rw [e] at ct
    have mg2 := MsG_xx (c1 := cM c (sCur σ) σ) (c2 := cM c (sCur σ) σ) ⟨rfl, rfl, rfl, fun _ _ z => z⟩ (SwF_x fr) ct by0 h67 mg
    have ms2 := Mst_of mg2
    refine rest s fr (Hmx_of ms2) by0 e7 e8 (fun gl2 pr2 c2 z2' _ _ z3' => ?_)
    rw [z2] at z2'
    cases z2'
    exact ⟨c, z3, by rw [e]; exact ms2⟩
theorem hp_seen (hj : j < 512) (a1 a2 : Int32) : cPr j (fun x => x = 0 ∨ x = 3 ∨ x = 2) (fun σ k => f_X11_seen k 0 (lI (lI lZ 1 a1) 2 a2) σ) (fun τ k => x_seen k 0 (upd (upd (fun _ => 0) 1 a1) 2 a2) τ) (fun _ _ => True) := by
  intro σ τ h
  have h0 := h
  obtain ⟨XE, ic, rf, tr, e10, e11, e13⟩ := h
  have q3 : uN (σ.1 7513) ≤ 8 := by obtain ⟨n, sz, _, _, ⟨_, _, q⟩, _⟩ := ic; exact q
  have h8 : uN (σ.1 7518) ≤ 2 := by obtain ⟨n, sz, _, _, ⟨_, q, _⟩, _⟩ := ic; exact q
  have hb : BY False σ := by obtain ⟨n, sz, _, _, _, ⟨_, q⟩, _⟩ := ic; exact q
  obtain ⟨g, l, t, hq, hv, hc⟩ := IC_g ic hj
  show Tm (fun k => f_X11_seen k 0 (lI (lI lZ 1 a1) 2 a2) σ) _
  have thr : ∀ x : Nat, (x = 3 ∨ x = 2) → (fun r : RS => (r.1.1 = 0 ∨ r.1.1 = 3 ∨ r.1.1 = 2) ∧ r.2.2.1 + PhC r.2.1 ≤ PhC σ + 2 ∧ r.2.2.2 + PhS r.2.1 ≤ PhS σ + 12 ∧ Tm (fun k => x_seen k 0 (upd (upd (fun _ => 0) 1 a1) 2 a2) τ) (fun q => IB (j + 1) r.2.1 q.2 ∧ True)) ((x, 0), σ, (1, 6)) := fun x hx => ⟨Or.inr hx, by show 1 + PhC σ ≤ _; omega, by show 6 + PhS σ ≤ _; omega, IB_k2 (gM := fun k => x_seen k 0 (upd (upd (fun _ => 0) 1 a1) 2 a2) τ) h0 hj (fun XE rf => rj_seen rf)⟩
  have no : ∀ L' : LV, Tm (fun k => f_X11_seen k 1 L' σ) (fun r : RS => (r.1.1 = 0 ∨ r.1.1 = 3 ∨ r.1.1 = 2) ∧ r.2.2.1 + PhC r.2.1 ≤ PhC σ + 2 ∧ r.2.2.2 + PhS r.2.1 ≤ PhS σ + 12 ∧ Tm (fun k => x_seen k 0 (upd (upd (fun _ => 0) 1 a1) 2 a2) τ) (fun q => IB (j + 1) r.2.1 q.2 ∧ True)) := fun L' => Tm_suc (fun k => by rw [f_X11_seen]) (Tm_some (thr 3 (Or.inl rfl)))
  refine Tm_suc (fun k => by rw [f_X11_seen]) ?_
  refine Tm_ite (fun _ => no _) (fun c1 => Tm_ite (fun _ => no _) (fun c2 => Tm_ite (fun _ => no _) (fun c3 => Tm_ite (fun c4 => ?_) (fun _ => no _))))
  obtain ⟨m, e1, e2⟩ := n_ofnn (show ¬ a1 < 0 from c1)
  obtain ⟨w, e3, e4⟩ := n_ofnn (show ¬ a2 < 0 from c3)
  have hw : w ≤ 2 := by
    have c4' : a2 ≤ nI 2 := c4
    rw [e3] at c4'
    exact (n_le e4 (by decide)).mp c4'
  have ua : uN a1 = m := by rw [e1, u_n (by omega)]
  have hm : m < 8 := by
    have c2' : ¬ σ.1 7513 ≤ a1 := c2
    rw [u_le (by omega) (by omega)] at c2'
    omega
  refine Tm_suc (fun k => by rw [f_X11_seen]) ?_
  refine Tm_chk (u_in (show uN a1 < 8 by omega) (by decide)) ?_
  refine Tm_ite (fun _ => Tm_some (thr 2 (Or.inr rfl))) (fun _ => ?_)
  refine Tm_suc (fun k => by rw [f_X11_seen]) ?_
  have e5 : 3 + 3 * a1 + a2 = nI (3 + 3 * m + w) := by
    rw [e1, e3]
    exact (by
      have x1 : (3 : Int32) * nI m = nI (3 * m) := by
        refine u_eq.2 ?_
        have := (by decide : ∀ m : Fin 8, (3 : Int32) * nI m.1 = nI (3 * m.1)) ⟨m, hm⟩
        rw [this]
      rw [x1, show (3 : Int32) + nI (3 * m) = nI (3 + 3 * m) from n_add (p := 3) (by omega), n_add (by omega)])
  have ix : ¬ (3 + 3 * a1 + a2 < 0 ∨ 27 ≤ (3 + 3 * a1 + a2).toNatClampNeg) := by rw [e5]; exact n_in (by omega) (by omega)
  refine Tm_chk ix ?_
  have ev : σ.2.2.1 67 (3 + 3 * a1 + a2).toNatClampNeg = σ.2.2.1 67 (3 + 3 * m + w) := by rw [e5, n_cl (p := 3 + 3 * m + w) (by omega)]
  refine Tm_oxc (c_show (L := lI lZ 1 (σ.2.2.1 67 (3 + 3 * a1 + a2).toNatClampNeg)) hq hv hb h8 (by show Gv g (σ.2.2.1 67 (3 + 3 * a1 + a2).toNatClampNeg); rw [ev]; exact hv _ (by omega))) (fun r z => z.1) (fun r z => Tm_some ?_)
  obtain ⟨z1, z2, z3, z4, z5, z6, z7⟩ := z
  have ic2 := hc r.2.1 z3 z4 z5 z6 z7
  obtain ⟨k1, k2, k3⟩ := SwF_M z3
  have v1 := z2.1
  have v2 := z2.2
  refine ⟨Or.inl rfl, by show r.2.2.1 + 0 + PhC r.2.1 ≤ _; omega, by show r.2.2.2 + 0 + PhS r.2.1 ≤ _; omega, ?_⟩
  refine Tm_mono (rj_seen rf) (fun q y => ⟨?_, trivial⟩)
  show IB (j + 1) r.2.1 q.2
  exact ⟨XE, ic2, y.1, KpT_rel (tRel_s tr (k1 3701 (by decide) (by decide)) (k2 38 (by omega)).1) y.2, by rw [k1 7510 (by decide) (by decide), y.2.2.2.1]; exact e10, by rw [k1 7511 (by decide) (by decide), y.2.2.2.2]; exact e11, by rw [k1 7513 (by decide) (by decide), y.2.2.1]; exact e13⟩
end DZD
