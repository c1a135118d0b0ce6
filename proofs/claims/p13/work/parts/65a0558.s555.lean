section JnS555
/-! The house over a value shown; seen. -/
section DZD
variable {σ s : CS} {ρ τ ω : MS} {b : Bool} {sz j n n2 V : Nat} {XE : XEt} {L : LV} {c : Ct} {gl : List Gn} {pr : Nat → Nat}
theorem Sw_cM (h : SwF σ s) : cM c b s = cM c b σ := by
  obtain ⟨m1, m2, m3, m4, m5, m6⟩ := SwF_M h
  have p13 := pR_13 b
  have p0 := pR0_c (sKd σ b)
  unfold cM
  show (s.2.2.1 (pR0 (sKd s b)), sN s (pR0 (sKd s b)), (fun u => uN (s.2.2.1 (pR13 b) u)), (fun u => uN (s.2.2.1 (pR14 b) u)), (fun u => uN (s.2.2.1 (pR18 b) u)), tcK c, tcD c) = _
  rw [m6, (m2 (pR0 (sKd σ b)) (by omega)).1, (m2 (pR0 (sKd σ b)) (by omega)).2, (m2 (pR13 b) (by omega)).1, (m2 (pR14 b) (by omega)).1, (m2 (pR18 b) (by omega)).1]
theorem Sw_CdL (h : SwF σ s) (cd : CdL b sz σ) : CdL b sz s := by
  obtain ⟨m1, m2, m3, m4, m5, m6⟩ := SwF_M h
  have p0 := pR0_c (sKd σ b)
  have fc := fP_c b 1
  have en : cdn b s = cdn b σ := by
    show sN s (pR0 (sKd s b)) = sN σ (pR0 (sKd σ b))
    rw [m6, (m2 (pR0 (sKd σ b)) (by omega)).2]
  exact ⟨(m1 _ (by omega) (by omega)).trans cd.1, by rw [en]; exact cd.2.1, by rw [en, (m2 43 (by omega)).2, (m2 51 (by omega)).2]; exact cd.2.2⟩
theorem Sw_pg (h : SwF σ s) (p : PgI gl pr b sz V c σ) : PgI gl pr b sz V c s := by
  obtain ⟨m1, m2, m3, m4, m5, m6⟩ := SwF_M h
  have p13 := pR_13 b
  have p0 := pR0_c (sKd σ b)
  have fc := fP_c b 2
  have fc11 := fP_c b 11
  obtain ⟨E, nu, vg, e0, MD, e, ⟨tb, de⟩, ⟨ut, r18⟩, pg, ⟨eN, cd⟩, ⟨en1, en2, en3⟩, vw⟩ := p
  have rr : ∀ k, 41 ≤ k ∧ k ≤ 65 ∨ 69 ≤ k ∧ k ≤ 74 → s.2.2.1 k = σ.2.2.1 k := fun k hk => (m2 k (by omega)).1
  refine ⟨E, nu, vg, e0, MD, e, ⟨TbR_s tb (m1 _ (by omega) (by omega)) (by rw [h.2.1.2.2]) (by rw [h.2.1.2.2]) (rr _ (by omega)) (rr _ (by omega)) (rr _ (by omega)) (rr _ (by omega)), de⟩, ⟨fun i hi => ?_, by rw [rr _ (by omega)]; exact r18⟩, pg, ⟨eN, fun i hi => ?_⟩, ⟨(m1 _ (by omega) (by omega)).trans en1, en2, en3⟩, fun i hi => by rw [rr 64 (by omega)]; exact vw i hi⟩
  · rw [rr (pR13 b) (by omega), rr (pR14 b) (by omega), rr (pR18 b) (by omega), rr (pR15 b) (by omega)]
    exact ut i hi
  · rw [← cd i hi]
    show s.2.2.1 (pR0 (sKd s b)) i = σ.2.2.1 (pR0 (sKd σ b)) i
    rw [m6, rr _ (by omega)]
/-- values that are kept, and that the house stands over others of them -/
theorem IC_g (h : IC XE j σ) (hj : j < 512) : ∃ (g : Nat → Prop) (l : List Nat) (t : Nat), HQ g l t σ ∧ (∀ i, i < 27 → Gv g (σ.2.2.1 67 i)) ∧ ∀ s, SwF σ s → (∀ i, i < 27 → Gv g (s.2.2.1 67 i)) → BY False s → uN (s.1 7517) ≤ sN s 66 → uN (s.1 7518) ≤ 2 → IC XE (j + 1) s := by
  obtain ⟨n, sz, ⟨t1, t2, t3, t4⟩, ⟨p1, p2, p3, p4, p5, p6⟩, ⟨q1, q2, q3⟩, ⟨m1, m2⟩, pp⟩ := h
  have rest : ∀ s, SwF σ s → Hmx s → BY False s → uN (s.1 7517) ≤ sN s 66 → uN (s.1 7518) ≤ 2 → (∀ gl pr c, XE = some (gl, pr) → ¬ σ.1 7511 = 0 → sPr σ = some (sCur σ) ∧ Mst (cM c (sCur σ) σ) σ ∧ uN (σ.1 1903) ≤ 20000 * j → PgI gl pr (sCur σ) sz (uN (σ.1 7513)) c σ → ∃ c', PgI gl pr (sCur σ) sz (uN (σ.1 7513)) c' σ ∧ Mst (cM c' (sCur σ) s) s) → IC XE (j + 1) s := fun s fr hm hb e7 e8 mm => by
    obtain ⟨k1, k2, k3, k4, k5, k6⟩ := SwF_M fr
    refine ⟨n, sz, ⟨?_, (k1 3701 (by decide) (by decide)).trans t2, by omega, by rw [fr.2.1.2.2]; exact t4⟩, ⟨by rw [k3, k4]; exact p1, fun d => ?_, by rw [(k2 41 (by omega)).2]; exact p3, by rw [(k2 42 (by omega)).2]; exact p4, by rw [k3]; exact Sw_CdL fr p5, by omega⟩, ⟨e7, e8, by rw [k1 7513 (by decide) (by decide)]; exact q3⟩, ⟨hm, hb⟩, ?_⟩
    · unfold tOK at t1 ⊢
      rw [k1 3701 (by decide) (by decide), (k2 38 (by omega)).1, (k2 38 (by omega)).2]
      exact t1
    · have p13 := pR_13 d
      exact ⟨by rw [(k2 _ (by omega)).1]; exact (p2 d).1, by rw [(k2 _ (by omega)).1]; exact (p2 d).2⟩
    · rw [k1 7510 (by decide) (by decide), k1 7511 (by decide) (by decide), k1 7513 (by decide) (by decide), k3]
      rcases pp with z | ⟨z0, gl, pr, c, z2, z3, z4⟩
      · exact Or.inl z
      · refine Or.inr ⟨z0, ?_⟩
        by_cases c11 : σ.1 7511 = 0
        · exact ⟨gl, pr, c, z2, Sw_pg fr z3, fun y => absurd c11 y⟩
        · obtain ⟨c', y1, y2⟩ := mm gl pr c z2 c11 (z4 c11) z3
          have e9 : s.1 1903 = σ.1 1903 := fr.1.1 1903 (by decide)
          exact ⟨gl, pr, c', z2, Sw_pg fr y1, fun _ => ⟨k5.trans (z4 c11).1, y2, by rw [e9]; have := (z4 c11).2.2; omega⟩⟩
  by_cases c11 : σ.1 7511 = 0
  · obtain ⟨g, l, t, K4, hb⟩ := id m1
    refine ⟨g, l, t, hb.1, fun i hi => (hb.2.2.2.1 i hi).2.1 rfl, fun s fr h67 by0 e7 e8 => ?_⟩
    exact rest s fr ⟨g, l, t, K4, Hmb_xx (SwF_x fr) h67 hb⟩ by0 e7 e8 (fun _ _ _ _ y => absurd c11 y)
  · obtain ⟨z0, gl, pr, c, z2, z3, z4⟩ := pp.resolve_left (fun z => c11 z.2.1)
    obtain ⟨y1, y2, y3⟩ := z4 c11
    obtain ⟨g, l, t, mg⟩ := Mst_G y2
    obtain ⟨hq, hv⟩ := MsG_v mg
    refine ⟨g, l, t, hq, hv, fun s fr h67 by0 e7 e8 => ?_⟩
    obtain ⟨k1, k2, k3, k4, k5, k6⟩ := SwF_M fr
    have e : cM c (sCur σ) s = cM c (sCur σ) σ := Sw_cM fr
    have ct : CtL (cM c (sCur σ) s) s := ct_M (k5.trans y1)
    rw [e] at ct
    have mg2 := MsG_xx (c1 := cM c (sCur σ) σ) (c2 := cM c (sCur σ) σ) ⟨rfl, rfl, rfl, fun _ _ z => z⟩ (SwF_x fr) ct by0 h67 mg
    have ms2 := Mst_of mg2
    refine rest s fr (Hmx_of ms2) by0 e7 e8 (fun gl2 pr2 c2 z2' _ _ z3' => ?_)
    rw [z2] at z2'
    cases z2'
    exact ⟨c, z3, by rw [e]; exact ms2⟩
theorem hp_seen (hj : j < 512) (a1 a2 : Int32) : cPr j (fun x => x = 0 ∨ x = 3 ∨ x = 2) (fun σ k => f_X11_seen k 0 (lI (lI lZ 1 a1) 2 a2) σ) (fun τ k => x_seen k 0 (upd (upd (fun _ => 0) 1 a1) 2 a2) τ) (fun _ _ => True) := by
  intro σ τ h
  have h0 := h
  obtain ⟨XE, ic, rf, tr, e10, e11, e13⟩ := h
  have q3 : uN (σ.1 7513) ≤ 8 := by obtain ⟨n, sz, _, _, ⟨_, _, q⟩, _⟩ := ic; exact q
  have h8 : uN (σ.1 7518) ≤ 2 := by obtain ⟨n, sz, _, _, ⟨_, q, _⟩, _⟩ := ic; exact q
  have hb : BY False σ := by obtain ⟨n, sz, _, _, _, ⟨_, q⟩, _⟩ := ic; exact q
  obtain ⟨g, l, t, hq, hv, hc⟩ := IC_g ic hj
  show Tm (fun k => f_X11_seen k 0 (lI (lI lZ 1 a1) 2 a2) σ) _
  have thr : ∀ x : Nat, (x = 3 ∨ x = 2) → (fun r : RS => (r.1.1 = 0 ∨ r.1.1 = 3 ∨ r.1.1 = 2) ∧ r.2.2.1 + PhC r.2.1 ≤ PhC σ + 2 ∧ r.2.2.2 + PhS r.2.1 ≤ PhS σ + 12 ∧ Tm (fun k => x_seen k 0 (upd (upd (fun _ => 0) 1 a1) 2 a2) τ) (fun q => IB (j + 1) r.2.1 q.2 ∧ True)) ((x, 0), σ, (1, 6)) := fun x hx => ⟨Or.inr hx, by show 1 + PhC σ ≤ _; omega, by show 6 + PhS σ ≤ _; omega, IB_k2 (gM := fun k => x_seen k 0 (upd (upd (fun _ => 0) 1 a1) 2 a2) τ) h0 hj (fun XE rf => rj_seen rf)⟩
  have no : ∀ L' : LV, Tm (fun k => f_X11_seen k 1 L' σ) (fun r : RS => (r.1.1 = 0 ∨ r.1.1 = 3 ∨ r.1.1 = 2) ∧ r.2.2.1 + PhC r.2.1 ≤ PhC σ + 2 ∧ r.2.2.2 + PhS r.2.1 ≤ PhS σ + 12 ∧ Tm (fun k => x_seen k 0 (upd (upd (fun _ => 0) 1 a1) 2 a2) τ) (fun q => IB (j + 1) r.2.1 q.2 ∧ True)) := fun L' => Tm_suc (fun k => by rw [f_X11_seen]) (Tm_some (thr 3 (Or.inl rfl)))
  refine Tm_suc (fun k => by rw [f_X11_seen]) ?_
  refine Tm_ite (fun _ => no _) (fun c1 => Tm_ite (fun _ => no _) (fun c2 => Tm_ite (fun _ => no _) (fun c3 => Tm_ite (fun c4 => ?_) (fun _ => no _))))
  obtain ⟨m, e1, e2⟩ := n_ofnn (show ¬ a1 < 0 from c1)
  obtain ⟨w, e3, e4⟩ := n_ofnn (show ¬ a2 < 0 from c3)
  have hw : w ≤ 2 := by
    have c4' : a2 ≤ nI 2 := c4
    rw [e3] at c4'
    exact (n_le e4 (by decide)).mp c4'
  have ua : uN a1 = m := by rw [e1, u_n (by omega)]
  have hm : m < 8 := by
    have c2' : ¬ σ.1 7513 ≤ a1 := c2
    rw [u_le (by omega) (by omega)] at c2'
    omega
  refine Tm_suc (fun k => by rw [f_X11_seen]) ?_
  refine Tm_chk (u_in (show uN a1 < 8 by omega) (by decide)) ?_
  refine Tm_ite (fun _ => Tm_some (thr 2 (Or.inr rfl))) (fun _ => ?_)
  refine Tm_suc (fun k => by rw [f_X11_seen]) ?_
  have e5 : 3 + 3 * a1 + a2 = nI (3 + 3 * m + w) := by
    rw [e1, e3]
    exact (by
      have x1 : (3 : Int32) * nI m = nI (3 * m) := by
        refine u_eq.2 ?_
        have := (by decide : ∀ m : Fin 8, (3 : Int32) * nI m.1 = nI (3 * m.1)) ⟨m, hm⟩
        rw [this]
      rw [x1, show (3 : Int32) + nI (3 * m) = nI (3 + 3 * m) from n_add (p := 3) (by omega), n_add (by omega)])
  have ix : ¬ (3 + 3 * a1 + a2 < 0 ∨ 27 ≤ (3 + 3 * a1 + a2).toNatClampNeg) := by rw [e5]; exact n_in (by omega) (by omega)
  refine Tm_chk ix ?_
  have ev : σ.2.2.1 67 (3 + 3 * a1 + a2).toNatClampNeg = σ.2.2.1 67 (3 + 3 * m + w) := by rw [e5, n_cl (p := 3 + 3 * m + w) (by omega)]
  refine Tm_oxc (c_show (L := lI lZ 1 (σ.2.2.1 67 (3 + 3 * a1 + a2).toNatClampNeg)) hq hv hb h8 (by show Gv g (σ.2.2.1 67 (3 + 3 * a1 + a2).toNatClampNeg); rw [ev]; exact hv _ (by omega))) (fun r z => z.1) (fun r z => Tm_some ?_)
  obtain ⟨z1, z2, z3, z4, z5, z6, z7⟩ := z
  have ic2 := hc r.2.1 z3 z4 z5 z6 z7
  obtain ⟨k1, k2, k3⟩ := SwF_M z3
  have v1 := z2.1
  have v2 := z2.2
  refine ⟨Or.inl rfl, by show r.2.2.1 + 0 + PhC r.2.1 ≤ _; omega, by show r.2.2.2 + 0 + PhS r.2.1 ≤ _; omega, ?_⟩
  refine Tm_mono (rj_seen rf) (fun q y => ⟨?_, trivial⟩)
  show IB (j + 1) r.2.1 q.2
  exact ⟨XE, ic2, y.1, KpT_rel (tRel_s tr (k1 3701 (by decide) (by decide)) (k2 38 (by omega)).1) y.2, by rw [k1 7510 (by decide) (by decide), y.2.2.2.1]; exact e10, by rw [k1 7511 (by decide) (by decide), y.2.2.2.2]; exact e11, by rw [k1 7513 (by decide) (by decide), y.2.2.1]; exact e13⟩
end DZD
end JnS555
section JnS556
/-! Names of a program are names (pure). -/
section DZE
variable {T : Nat → Int32} {n q : Nat}
/-- a name, as it is read somewhere -/
def IdN (l : List Int32) : Prop := ∃ (T : Nat → Int32) (n q : Nat), q ≤ n ∧ tkK T n q = 26 ∧ l = tkS T n q
def NmA (gl : List Gn) : Prop := ∀ x, x ∈ gl → IdN x.1
theorem gvr_id : ∀ (f : Nat) (E : En) (q v : Nat) (b : BT) (r : DV), q ≤ n → GVr T n f E q v b = some (Sum.inr r) → NmA E.1 → NmA r.2.1.1
  | 0, E, q, v, b, r, hq, hG, _ => by cases hG
  | f + 1, E, q, v, b, r, hq, hG, hA => by
    have ih := gvr_id f
    have hN := tkN_b T n q hq
    rw [GVr] at hG
    have step : ∀ (E1 : En), NmA E1.1 → (if tkK T n (tkN T n q) = 12 then pT T n (tkN T n q) (fun q2 => GVr T n f E1 q2 (v + 1) (bTl T n E q v b)) else pW T n 13 (tkN T n q) (fun q2 => some (Sum.inr (q2, E1, v + 1, bTl T n E q v b)))) = some (Sum.inr r) → NmA r.2.1.1 := fun E1 h1 hx => by
      have hN2 := tkN_b T n (tkN T n q) hN.2.1
      by_cases c : tkK T n (tkN T n q) = 12
      · rw [if_pos c] at hx
        rcases pT_any hx with ⟨_, y⟩ | ⟨_, y⟩
        · cases y
        · exact ih _ _ _ _ _ hN2.2.1 y h1
      · rw [if_neg c] at hx
        rcases pW_any hx with ⟨_, y⟩ | ⟨y0, y⟩
        · cases y
        · obtain rfl := Sum.inr.inj (Option.some.inj y)
          exact h1
    by_cases e : E.2.2.2.1 = 0
    · rw [if_pos e] at hG
      rcases gTe_any hG with ⟨_, y⟩ | ⟨y0, y⟩
      · cases y
      · refine step (eTe T n E q v b) (fun x hx => ?_) y
        rcases List.mem_append.mp (show x ∈ E.1 ++ [(tkS T n q, b.2.1, 1, v)] from hx) with z | z
        · exact hA x z
        · rw [List.mem_singleton.mp z]
          exact ⟨T, n, q, hq, y0.1.1, rfl⟩
    · rw [if_neg e] at hG
      rcases gTl_any hG with ⟨_, y⟩ | ⟨y0, y⟩
      · cases y
      · exact step (eTl T n E q v b) hA y
theorem gCal_id {pr : Bool} {E : En} {MD : Nat → Nat → Nat} {c pc v q : Nat} {b : BT} {s : SB} {F : Nat → Int32} {g : PRG} (hq : q ≤ n) (h : gCal T n pr E MD c pc v b s F q = some (Sum.inr g)) (hA : NmA E.1) : NmA g.2.1.1 := by
  have hN := tkN_b T n q hq
  unfold gCal at h
  rcases pT_any h with ⟨_, y⟩ | ⟨_, h⟩
  · cases y
  by_cases c1 : nmC T n E c (tkN T n q)
  · rw [if_pos c1] at h
    have hN1 := tkN_b T n (tkN T n q) hN.2.1
    rcases pT_any h with ⟨_, y⟩ | ⟨_, h⟩
    · cases y
    by_cases c2 : tkK T n (tkN T n (tkN T n q)) = 6
    · rw [if_pos c2] at h
      unfold gCb at h
      have hN2 := tkN_b T n _ hN1.2.1
      rcases pT_any h with ⟨_, y⟩ | ⟨_, h⟩
      · cases y
      rcases pb_any h with ⟨yf, _, y⟩ | ⟨a, ha, h⟩
      · cases y
      obtain ⟨⟨a1, _⟩, _⟩ := gpm_mo _ _ _ _ _ _ _ _ ha hN2.2.1 (by decide) updN_s
      rcases pT_any h with ⟨_, y⟩ | ⟨_, h⟩
      · cases y
      rcases pb_any h with ⟨yf, _, y⟩ | ⟨z, hz, h⟩
      · cases y
      obtain rfl := Sum.inr.inj (Option.some.inj h)
      show NmA a.2.1.1
      rw [a1]
      intro x hx
      rcases List.mem_append.mp (show x ∈ E.1 ++ [(tkS T n (tkN T n q), b.2.1, (if pr = true then 3 else 2), c)] from hx) with z | z
      · exact hA x z
      · rw [List.mem_singleton.mp z]
        exact ⟨T, n, _, hN.2.1, c1.1, rfl⟩
    · rw [if_neg c2] at h; cases h
  · rw [if_neg c1] at h; cases h
theorem gds_id : ∀ (f : Nat) (g h : PRG), GDs T n f g = some (Sum.inr h) → PL n g → NmA g.2.1.1 → NmA h.2.1.1
  | 0, g, h, hG, _, _ => by cases hG
  | f + 1, g, h, hG, hP, hA => by
    have ih := gds_id f
    obtain ⟨p1, p2, p3, p4, p5, p6, p7⟩ := hP
    have hN := tkN_b T n g.1 p1
    rw [GDs] at hG
    by_cases c1 : tkK T n g.1 = 32
    · rw [if_pos c1] at hG
      rcases pb_any hG with ⟨yf, _, y⟩ | ⟨r, hr, hG⟩
      · cases y
      rcases pT_any hr with ⟨_, y⟩ | ⟨_, hr⟩
      · cases y
      obtain ⟨m1, m2, m3, m4, m5, m6, m7, m8, _⟩ := gvr_mo _ _ _ _ _ _ hN.2.1 p5 hr
      exact ih _ _ hG ⟨m2, by show 1 ≤ r.2.2.2.1; omega, by show r.2.2.2.1 ≤ 1 + r.1; omega, by show r.2.2.2.2.1 ≤ r.1; omega, m4, p6, by show r.2.1.2.2.2.1 = 0; rw [m8]; exact p7⟩ (gvr_id _ _ _ _ _ _ hN.2.1 hr hA)
    · rw [if_neg c1] at hG
      by_cases c2 : tkK T n g.1 = 34 ∨ tkK T n g.1 = 33
      · rw [if_pos c2] at hG
        rcases pb_any hG with ⟨yf, _, y⟩ | ⟨r, hr, hG⟩
        · cases y
        exact ih _ _ hG (gCal_mo p1 p5 p2 p6 ⟨p3, p4⟩ hr).2 (gCal_id p1 hr hA)
      · rw [if_neg c2] at hG
        obtain rfl := Sum.inr.inj (Option.some.inj hG)
        exact hA
theorem gprg_id {u p : Nat → Int32} {g : PRG} {t : ST} (h : gPrg T n (g0 T n u p) = some (Sum.inr (g, t))) : NmA g.2.1.1 := by
  unfold gPrg at h
  by_cases c0 : tkK T n (sk T n 0) = 0
  · rw [if_pos c0] at h; cases h
  rw [if_neg c0] at h
  rcases pb_any h with ⟨yf, _, y⟩ | ⟨g1, hg, h⟩
  · cases y
  rcases pb_any h with ⟨yf, _, y⟩ | ⟨t1, ht, h⟩
  · cases y
  by_cases c25 : tkK T n t1.1 = 25
  case neg => rw [if_neg c25] at h; cases h
  rw [if_pos c25] at h
  cases h
  exact gds_id _ _ _ hg (g0_PL T n u p) (fun x hx => absurd hx (List.not_mem_nil))
theorem nm_all : ∀ (d p : Nat), d + p = n → (∀ i, p ≤ i → i < n → isN (T i)) → nameE T n (d + 1) p = n
  | 0, p, h, _ => by
    obtain rfl : p = n := by omega
    rw [nameE_step, if_neg (by rw [rB_out (Nat.le_refl _)]; decide)]
  | d + 1, p, h, a => by
    rw [nameE_step, if_pos (by rw [rB_in (by omega)]; exact a p (Nat.le_refl _) (by omega))]
    exact nm_all d (p + 1) (by omega) (fun i h1 h2 => a i (by omega) h2)
theorem tk_nw (hq : q ≤ n) (h : tkK T n q = 26) : wordI (tkS T n q) = -1 := by
  obtain ⟨hl, c, eE, h16⟩ := tk_nm hq h
  have eS : tkS T n q = seg T q (nameE T n (n + 1) q) := by unfold tkS; rw [eE]
  rw [eS]
  refine Classical.byContradiction (fun w => ?_)
  have e1 : (tokM 0 T n q).1 = 5 := by
    unfold tokM
    rw [if_neg (by omega), if_pos c]
    show (if nameE T n (n + 1) q - q ≤ 16 then (if wordI (seg T q (nameE T n (n + 1) q)) = -1 then (1 : Int32) else 5) else 6) = 5
    rw [if_pos h16, if_neg w]
  unfold tkK tkc at h
  rw [e1, if_neg kv_5.1, if_neg kv_5.2.1, if_neg kv_5.2.2.1, if_neg kv_5.2.2.2.1, if_neg kv_5.2.2.2.2, if_pos rfl] at h
  omega
/-- a text that is a name -/
theorem tk_id {bs : List Int32} (h : IdN bs) (hl : n = bs.length) (hb : ∀ i, i < n → T i = bs.getD i 0) : tkK T n 0 = 26 ∧ tkE T n 0 = n ∧ tkS T n 0 = bs ∧ sk T n 0 = 0 := by
  obtain ⟨T', n', q', hq, hk, rfl⟩ := h
  obtain ⟨l', c, eE, h16⟩ := tk_nm hq hk
  have nw := tk_nw hq hk
  have hle := nameE_le T' n' (n' + 1) q' hq
  have hall := nameE_all T' n' (n' + 1) q'
  have hgt : q' < nameE T' n' (n' + 1) q' := by have := (tkE_b T' n' q' hq).2.2 (by omega); omega
  have eS : tkS T' n' q' = seg T' q' (nameE T' n' (n' + 1) q') := by unfold tkS; rw [eE]
  have el : (tkS T' n' q').length = nameE T' n' (n' + 1) q' - q' := by rw [eS, seg_len]
  have eb : ∀ i, i < n → T i = T' (q' + i) := fun i hi => by rw [hb i hi, eS, seg_at (by omega)]
  have e0 : isL (T 0) := by
    rw [eb 0 (by omega), Nat.add_zero]
    rw [rB_in l'] at c
    exact c
  have eN : nameE T n (n + 1) 0 = n := nm_all n 0 (by omega) (fun i _ hi => by rw [eb i hi]; exact hall _ (by omega) (by omega))
  have sg : seg T 0 n = tkS T' n' q' := (seg_eq (by omega) (fun i hi => by rw [Nat.zero_add, hb i (by omega)])).symm
  have tok : tokM 0 T n 0 = (1, -1, n) := by
    unfold tokM
    rw [if_neg (by omega), if_pos (by rw [rB_in (by omega)]; exact e0), eN, sg, nw, if_pos (by omega), if_pos rfl]
  have t0 : 65 ≤ (T 0).toInt := by rw [isL_int] at e0; omega
  refine ⟨?_, ?_, ?_, ?_⟩
  · unfold tkK; rw [tok]; rfl
  · unfold tkE; rw [tok]
  · unfold tkS tkE; rw [tok]; exact sg
  · show skE T n (n + 1) 0 = 0
    rw [skE_step, if_neg, if_neg]
    · intro z
      have := (noteB_lt z).2.1
      rw [this] at t0
      exact absurd t0 (by decide)
    · intro z
      rcases z.2 with w | w | w | w <;> (rw [w] at t0; exact absurd t0 (by decide))
theorem RfJ_id {XE : XEt} {j : Nat} {τ : MS} {g : List Gn × (Nat → Nat)} (h : RfJ XE j τ) (e : XE = some g) : NmA g.1 := by
  rcases h.2 with z | ⟨_, TX, u, p, nX, g', t, KB, S, _, ⟨z2, z3⟩, _⟩
  · rw [z.2.2] at e; cases e
  · rw [z3] at e
    cases e
    exact gprg_id z2
end DZE
end JnS556
section JnS557
/-! The house: a text is looked at; a variable's value. -/
section DZF
variable {σ s : CS} {ρ τ ω : MS} {b : Bool} {sz j n n2 V : Nat} {XE : XEt} {L : LV} {c : Ct} {gl : List Gn} {pr : Nat → Nat}
/-- the tape is no longer than before -/
theorem IC_tq (h : IC XE j σ) (fr : HfT σ s) (ok : tOK s) (e : s.1 3701 = nI n2) (hn : ∀ n, σ.1 3701 = nI n → n ≤ 20 * j → n2 ≤ n) : IC XE j s := by
  obtain ⟨n, sz, ⟨t1, t2, t3, t4⟩, ⟨p1, p2, p3, p4, p5, p6⟩, ⟨q1, q2, q3⟩, ⟨m1, m2⟩, pp⟩ := h
  have fm := HfT_m fr
  have l := hn n t2 t3
  have ff := fr.1.1
  have sc := fr.2.2.1.1
  refine ⟨n2, sz, ⟨ok, e, by omega, by rw [fr.2.1.2.2]; exact t4⟩, ⟨by rw [sc, fr.2.2.1.2.1]; exact p1, fun d => ?_, by rw [fr.2.1.2.1 41 (by decide)]; exact p3, by rw [fr.2.1.2.1 42 (by decide)]; exact p4, by rw [sc]; exact HfT_CdL fr p5, by omega⟩, ⟨by rw [ff 7517 (by decide), fr.2.1.2.1 66 (by decide)]; exact q1, by rw [ff 7518 (by decide)]; exact q2, by rw [ff 7513 (by decide)]; exact q3⟩, ⟨Hmx_m fm m1, BY_m fm m2⟩, ?_⟩
  · have p13 := pR_13 d
    exact ⟨by rw [fr.2.1.1 _ (by omega)]; exact (p2 d).1, by rw [fr.2.1.1 _ (by omega)]; exact (p2 d).2⟩
  · rw [ff 7510 (by decide), ff 7511 (by decide), ff 7513 (by decide), sc]
    refine pp.imp id (fun ⟨k0, gl, pr, c, k2, k3, k4⟩ => ⟨k0, gl, pr, c, k2, HfT_pg fr k3, fun z => ?_⟩)
    obtain ⟨y1, y2, y3⟩ := k4 z
    have e9 : s.1 1903 = σ.1 1903 := ff 1903 (by decide)
    exact ⟨fr.2.2.1.2.2.1.trans y1, Mst_m (HfT_ct fr) fm (ct_M (fr.2.2.1.2.2.1.trans y1)) y2, by rw [e9]; exact y3⟩
theorem HfT_tr {s2 : CS} (a : HfT σ s) (d : HfT s s2) : HfT σ s2 := ⟨⟨fun i hi => (d.1.1 i hi).trans (a.1.1 i hi), fun i hi => (d.1.2 i hi).trans (a.1.2 i hi)⟩, ⟨fun k hk => (d.2.1.1 k hk).trans (a.2.1.1 k hk), fun k hk => (d.2.1.2.1 k hk).trans (a.2.1.2.1 k hk), d.2.1.2.2.trans a.2.1.2.2⟩, ⟨d.2.2.1.1.trans a.2.2.1.1, d.2.2.1.2.1.trans a.2.2.1.2.1, d.2.2.1.2.2.1.trans a.2.2.1.2.2.1, d.2.2.1.2.2.2.trans a.2.2.1.2.2.2⟩, d.2.2.2.trans a.2.2.2⟩
theorem HfT_i {i : Nat} {x : Int32} (hi : (3701 ≤ i ∧ i ≤ 3704) ∨ (4003 ≤ i ∧ i ≤ 4020) ∨ i = 7512 ∨ i = 7519) : HfT σ (uI σ i x) := ⟨⟨fun k hk => uI_o (by omega), fun _ _ => rfl⟩, ⟨fun _ _ => rfl, fun _ _ => rfl, rfl⟩, ⟨rfl, rfl, rfl, rfl⟩, rfl⟩
theorem HfT_sA {kd st en : Int32} {hi lo : Int64} : HfT σ (sA σ kd st en hi lo) := by
  refine ⟨⟨fun i hi => ?_, fun i hi => ?_⟩, ⟨fun _ _ => rfl, fun _ _ => rfl, rfl⟩, ⟨rfl, rfl, rfl, rfl⟩, rfl⟩
  · show upd (upd (upd σ.1 3702 kd) 3703 st) 3704 en i = _
    rw [upd_other (by omega), upd_other (by omega), upd_other (by omega)]
  · show updW (updW σ.2.1 3705 _) 3706 lo i = _
    rw [updW_other (by omega), updW_other (by omega)]
theorem HfT_rw {r : RS} (h : cRew σ n r) : HfT σ r.2.1 := by
  obtain ⟨_, row, m, e, _⟩ := h
  rw [e]
  exact HfT_tr HfT_tC (HfT_i (Or.inl ⟨by decide, by decide⟩))
theorem tOK_cN (h : cN s n) : tOK s := by
  obtain ⟨h1, h2, h3, h4, h5, _⟩ := h
  unfold tOK
  rw [h1, n_int (by omega)]
  exact ⟨by omega, by omega, by omega, h4, h5⟩
theorem tRel_q (h : cN s n) (hs : sameT (τ.2.2 3) (s.2.2.1 38) n) (e : τ.1 4 = nI n) : tRel s τ := by
  refine ⟨h.1.trans e.symm, fun i hi => ?_⟩
  rw [h.1, n_int (by have := h.2.1; omega)] at hi
  exact hs.1 i (by omega)
/-- the cost of a text looked at -/
theorem rw_ph {r : RS} (h : cRew σ n r) : r.2.2.1 + PhC r.2.1 ≤ PhC σ ∧ r.2.2.2 + PhS r.2.1 ≤ PhS σ := by
  have fr := HfT_rw h
  obtain ⟨_, row, m, e, _, _, _, _, _, _, _, h10, h11⟩ := h
  have kM : sN r.2.1 38 = m := by
    rw [e]
    exact (tC_n : sN (tC σ (σ.1 3701) row m) 38 = m)
  have ph := Ph_38 (σ := σ) (σ' := r.2.1) (fun k hk => fr.2.1.2.1 k hk)
  rw [kM] at ph
  omega
/-- as IC_g, and the variables' values -/
theorem IC_g2 (h : IC XE j σ) (hj : j < 512) (h11 : ¬ σ.1 7511 = 0) : ∃ (g : Nat → Prop) (l : List Nat) (t : Nat), HQ g l t σ ∧ (∀ i, i < 27 → Gv g (σ.2.2.1 67 i)) ∧ (∀ gl pr x, XE = some (gl, pr) → x ∈ gl → x.2.2.1 = 1 → (4 + x.2.2.2 < sN σ 20 ∧ sN σ 20 ≤ 91000) ∧ Gv g (σ.2.2.1 20 (4 + x.2.2.2))) ∧ ∀ s, SwF σ s → (∀ i, i < 27 → Gv g (s.2.2.1 67 i)) → BY False s → uN (s.1 7517) ≤ sN s 66 → uN (s.1 7518) ≤ 2 → IC XE (j + 1) s := by
  obtain ⟨n, sz, ⟨t1, t2, t3, t4⟩, ⟨p1, p2, p3, p4, p5, p6⟩, ⟨q1, q2, q3⟩, ⟨m1, m2⟩, pp⟩ := h
  obtain ⟨z0, gl, pr, c, z2, z3, z4⟩ := pp.resolve_left (fun z => h11 z.2.1)
  obtain ⟨y1, y2, y3⟩ := z4 h11
  obtain ⟨g, l, t, mg⟩ := Mst_G y2
  obtain ⟨hq, hv⟩ := MsG_v mg
  refine ⟨g, l, t, hq, hv, fun gl' pr' x ex hx k1 => ?_, fun s fr h67 by0 e7 e8 => ?_⟩
  · rw [z2] at ex
    cases ex
    obtain ⟨E, nu, vg, e0, MD, ⟨e1, e2⟩, ⟨tb, de⟩, ⟨ut, r18⟩, _⟩ := z3
    have vg60 := de.2.1.2.1
    have hs : x.2.2.2 < vg := by
      rw [← e1] at hx
      rcases (de.2.2.2.1 x hx).2 with z | z
      · exact z.2
      · omega
    have f0 : tcF (cM c (sCur σ) σ) 0 = vg := by show uN (σ.2.2.1 (pR18 (sCur σ)) 0) = vg; rw [r18, u_n (by omega)]
    obtain ⟨_, _, K, K2, K3, K4, mi, _⟩ := mg
    obtain ⟨_, ⟨⟨v1, v2, v3⟩, _⟩, _, _, _, kk, ⟨b1, b2⟩, _⟩ := mi
    rw [f0] at kk b2
    refine ⟨⟨by omega, v2.2⟩, ((v3 (4 + x.2.2.2) (by omega)).2.1 ?_)⟩
    rw [kk (4 + x.2.2.2) (by omega)]
    unfold KH
    exact if_neg (by omega)
  · obtain ⟨k1, k2, k3, k4, k5, k6⟩ := SwF_M fr
    have e : cM c (sCur σ) s = cM c (sCur σ) σ := Sw_cM fr
    have ct : CtL (cM c (sCur σ) s) s := ct_M (k5.trans y1)
    rw [e] at ct
    have mg2 := MsG_xx (c1 := cM c (sCur σ) σ) (c2 := cM c (sCur σ) σ) ⟨rfl, rfl, rfl, fun _ _ z => z⟩ (SwF_x fr) ct by0 h67 mg
    have ms2 := Mst_of mg2
    refine ⟨n, sz, ⟨?_, (k1 3701 (by decide) (by decide)).trans t2, by omega, by rw [fr.2.1.2.2]; exact t4⟩, ⟨by rw [k3, k4]; exact p1, fun d => ?_, by rw [(k2 41 (by omega)).2]; exact p3, by rw [(k2 42 (by omega)).2]; exact p4, by rw [k3]; exact Sw_CdL fr p5, by omega⟩, ⟨e7, e8, by rw [k1 7513 (by decide) (by decide)]; exact q3⟩, ⟨Hmx_of ms2, by0⟩, ?_⟩
    · unfold tOK at t1 ⊢
      rw [k1 3701 (by decide) (by decide), (k2 38 (by omega)).1, (k2 38 (by omega)).2]
      exact t1
    · have p13 := pR_13 d
      exact ⟨by rw [(k2 _ (by omega)).1]; exact (p2 d).1, by rw [(k2 _ (by omega)).1]; exact (p2 d).2⟩
    · rw [k1 7510 (by decide) (by decide), k1 7511 (by decide) (by decide), k1 7513 (by decide) (by decide), k3]
      have e9 : s.1 1903 = σ.1 1903 := fr.1.1 1903 (by decide)
      exact Or.inr ⟨z0, gl, pr, c, z2, Sw_pg fr z3, fun _ => ⟨k5.trans y1, by rw [e]; exact ms2, by rw [e9]; omega⟩⟩
/-- a name of the program, as the reference finds it -/
theorem mNm_of {x : Gn} (h : PGn gl τ) (hx : x ∈ gl) : mNm τ 0 n x.2.1 x.1.length ↔ (n = x.1.length ∧ ∀ i, i < n → τ.2.2 3 i = x.1.getD i 0) := by
  obtain ⟨bt, pb, _, _, gk⟩ := h
  obtain ⟨k, hk⟩ := List.mem_iff_getElem?.1 hx
  obtain ⟨_, _, _, _, q5, _, _, _, q9⟩ := gk k x hk
  unfold mNm
  constructor
  · rintro ⟨z1, z2⟩
    refine ⟨z1, fun i hi => ?_⟩
    have z3 := z2 i (by omega)
    rw [Nat.zero_add, pb.2.2.2.2 _ (by omega), q9 i (by omega)] at z3
    exact z3.symm
  · rintro ⟨z1, z2⟩
    refine ⟨z1, fun i hi => ?_⟩
    rw [Nat.zero_add, pb.2.2.2.2 _ (by omega), q9 i (by omega), z2 i (by omega)]
end DZF
end JnS557
section JnS558
/-! The house: value, on both sides. -/
section DZG
variable {σ s : CS} {ρ τ ω : MS} {b : Bool} {sz j n n2 V i : Nat} {XE : XEt} {L : LV} {c : Ct} {gl : List Gn} {pr : Nat → Nat} {E : En}
/-- the text is the name of a variable -/
def VaN (gl : List Gn) (T : Nat → Int32) (n : Nat) : Prop := ∃ x, x ∈ gl ∧ x.2.2.1 = 1 ∧ n = x.1.length ∧ ∀ i, i < n → T i = x.1.getD i 0
def VlQ (j : Nat) (σ : CS) (τ : MS) (r : RS) : Prop := (r.1.1 = 0 ∨ r.1.1 = 2 ∨ r.1.1 = 1) ∧ r.2.2.1 + PhC r.2.1 ≤ PhC σ + 2 ∧ r.2.2.2 + PhS r.2.1 ≤ PhS σ + 12 ∧ Tm (fun k => x_value k 0 (fun _ => 0) τ) (fun q => IB (j + 1) r.2.1 q.2 ∧ True)
theorem tbE_at (h0 : E.2.1 = []) (hi : i < (tbE 0 E).length) : ∃ x, E.1[i]? = some x ∧ (tbE 0 E).getD i e0E = gEn x := by
  have e : tbE 0 E = E.1.map gEn := by
    unfold tbE
    rw [h0]
    exact List.append_nil _
  rw [e] at hi ⊢
  rw [List.length_map] at hi
  refine ⟨E.1[i], List.getElem?_eq_getElem hi, ?_⟩
  rw [List.getD_eq_getElem?_getD, List.getElem?_map, List.getElem?_eq_getElem hi]
  rfl
theorem tbE_of {x : Gn} (h0 : E.2.1 = []) (hx : x ∈ E.1) : ∃ i, i < (tbE 0 E).length ∧ (tbE 0 E).getD i e0E = gEn x := by
  have e : tbE 0 E = E.1.map gEn := by
    unfold tbE
    rw [h0]
    exact List.append_nil _
  obtain ⟨i, hi, ei⟩ := List.mem_iff_getElem.1 hx
  refine ⟨i, by rw [e, List.length_map]; exact hi, ?_⟩
  rw [e, List.getD_eq_getElem?_getD, List.getElem?_map, List.getElem?_eq_getElem hi, ei]
  rfl
theorem pw_ij2 {l : List Gn} (h : l.Pairwise (fun a b => ¬ a.1 = b.1)) {x y : Gn} (hx : x ∈ l) (hy : y ∈ l) (e : x.1 = y.1) : x = y := by
  obtain ⟨i, hi, ei⟩ := List.mem_iff_getElem.1 hx
  obtain ⟨k, hk, ek⟩ := List.mem_iff_getElem.1 hy
  have pw := List.pairwise_iff_getElem.1 h
  rcases Nat.lt_trichotomy i k with z | z | z
  · have := pw i k hi hk z
    rw [ei, ek] at this
    exact absurd e this
  · subst z
    rw [← ei, ← ek]
  · have := pw k i hk hi z
    rw [ei, ek] at this
    exact absurd e.symm this
theorem hp_value (hj : j < 512) : cPr j (fun x => x = 0 ∨ x = 2 ∨ x = 1) (fun σ k => f_X11_value k 0 lZ σ) (fun τ k => x_value k 0 (fun _ => 0) τ) (fun _ _ => True) := by
  intro σ τ h
  have h0 := h
  obtain ⟨XE, ic, rf, tr, e10, e11, e13⟩ := h
  have ic0 := ic
  obtain ⟨n, sz, ⟨t1, t2, t3, t4⟩, _, _, _, pp⟩ := ic
  show Tm (fun k => f_X11_value k 0 lZ σ) (VlQ j σ τ)
  refine Tm_suc (fun k => by rw [f_X11_value]) ?_
  refine Tm_wr (fun z => ?_) (fun nz => ?_)
  · exact ⟨Or.inr (Or.inl rfl), by show 1 + PhC σ ≤ _; omega, by show 6 + PhS σ ≤ _; omega, IB_k2 (gM := fun k => x_value k 0 (fun _ => 0) τ) h0 hj (fun XE rf => Tm_mono (s_valueN (e11.1 z)) (fun r hr => by rw [hr]; exact ⟨RfJ_2 rf, KpT_2⟩))⟩
  have n112 : ¬ τ.1 112 = 0 := fun z => nz (e11.2 z)
  obtain ⟨k0, gl, pr, c, hX, pg, k4⟩ := pp.resolve_left (fun z => nz z.2.1)
  have ida : NmA gl := RfJ_id rf hX
  have e4 : τ.1 4 = nI n := tr.1.symm.trans t2
  obtain ⟨E, nu, vg, e0, MD, ⟨e1, e2⟩, ⟨tb, de⟩, _⟩ := id pg
  subst e1
  have nl : E.2.1 = [] := (de.1.2.1 rfl).1
  have ref : Tm (fun k => x_value k 0 (fun _ => 0) τ) (fun q => RfJ XE (j + 1) q.2 ∧ (q.2.1 73 = τ.1 73 ∧ q.2.1 111 = τ.1 111 ∧ q.2.1 112 = τ.1 112) ∧ ((KpT τ q.2 ∧ ¬ VaN E.1 (τ.2.2 3) n) ∨ (q.2.1 4 = 0 ∧ VaN E.1 (τ.2.2 3) n))) := by
    refine Tm_mono (rj_value rf) (fun q w => ?_)
    obtain ⟨w1, w2, w3⟩ := w
    rcases w3 with ⟨z, _⟩ | ⟨n', g, tn, eg, pgn, w4⟩
    · exact absurd z n112
    · obtain rfl : n' = n := nI_inj (tn.1.symm.trans e4) (by have := tn.2; omega) (by omega)
      rw [hX] at eg
      cases eg
      refine ⟨w1, w2, w4.imp (fun z => ⟨z.1, fun y => ?_⟩) (fun z => ⟨z.1, ?_⟩)⟩
      · obtain ⟨x, x1, x2, x3⟩ := y
        exact z.2 ⟨x, x1, x2, (mNm_of pgn x1).2 x3⟩
      · obtain ⟨_, x, x1, x2, x3⟩ := z
        exact ⟨x, x1, x2, (mNm_of pgn x1).1 x3⟩
  have no : ∀ r : RS, r.1.1 = 1 → HfT σ r.2.1 → cN r.2.1 n → sameT (τ.2.2 3) (r.2.1.2.2.1 38) n → r.2.2.1 + PhC r.2.1 ≤ PhC σ + 2 → r.2.2.2 + PhS r.2.1 ≤ PhS σ + 12 → ¬ VaN E.1 (τ.2.2 3) n → VlQ j σ τ r := fun r r1 fr cn sm c1 c2 na => by
    refine ⟨Or.inr (Or.inr r1), c1, c2, Tm_mono ref (fun q w => ⟨?_, trivial⟩)⟩
    obtain ⟨w1, ⟨w2, w3, w4⟩, w5⟩ := w
    have icq : IC XE j r.2.1 := IC_tq ic0 fr (tOK_cN cn) cn.1 (fun n' e' l' => by have := nI_inj (t2.symm.trans e') (by omega) (by omega); omega)
    rcases w5 with ⟨k, _⟩ | ⟨_, a⟩
    · exact ⟨XE, IC_s icq hj, w1, KpT_rel (tRel_q cn sm e4) k, by rw [fr.1.1 7510 (by decide), w3]; exact e10, by rw [fr.1.1 7511 (by decide), w4]; exact e11, by rw [fr.1.1 7513 (by decide), w2]; exact e13⟩
    · exact absurd a na
  have idx : VaN E.1 (τ.2.2 3) n → tkK (τ.2.2 3) n 0 = 26 ∧ tkE (τ.2.2 3) n 0 = n ∧ sk (τ.2.2 3) n 0 = 0 ∧ ∃ x, x ∈ E.1 ∧ x.2.2.1 = 1 ∧ tkS (τ.2.2 3) n 0 = x.1 := fun a => by
    obtain ⟨x, x1, x2, x3, x4⟩ := a
    obtain ⟨i1, i2, i3, i4⟩ := tk_id (ida x x1) x3 x4
    exact ⟨i1, i2, i4, x, x1, x2, i3⟩
  refine Tm_oxc (s_rewind t1 t2 (by omega) lZ) (fun r z => by rw [z.1]) (fun r1 rw1 => ?_)
  have fr1 := HfT_rw rw1
  have cn1 := rew_cN t2 (by omega) rw1
  have sm1 := rew_same t2 (by omega) tr rw1
  have ph1 := rw_ph rw1
  clear rw1
  have adv := c_advP (T := τ.2.2 3) (L := lZ) cn1.1 sm1 (by rw [fr1.2.1.2.2]; exact t4) cn1.2 (Nat.zero_le n)
  refine Tm_ox adv (fun r3 w nz3 => ?_) (fun r3 w e03 => ?_)
  · have k0 : tkK (τ.2.2 3) n (sk (τ.2.2 3) n 0) = 0 := by
      by_cases k0 : tkK (τ.2.2 3) n (sk (τ.2.2 3) n 0) = 0
      · exact k0
      · exact absurd (by rw [(w.2.1 k0).1]) nz3
    obtain ⟨w1, w2⟩ := w.1 k0
    obtain ⟨kd, st, en, hi, lo, es⟩ := w.2.2
    have ph := Ph_s (σ := r1.2.1) (σ' := r3.2.1) (by rw [es]; rfl)
    refine no _ (by show r3.1.1 = 1; rw [w1]) (HfT_tr fr1 (by show HfT r1.2.1 r3.2.1; rw [es]; exact HfT_sA)) (by show cN r3.2.1 n; rw [es]; exact cN_sA cn1.1) (by show sameT _ (r3.2.1.2.2.1 38) n; rw [es]; exact sm1) ?_ ?_ (fun a => ?_)
    · show r1.2.2.1 + r3.2.2.1 + PhC r3.2.1 ≤ _
      rw [w2.1]; show r1.2.2.1 + 1 + PhC r3.2.1 ≤ _; omega
    · show r1.2.2.2 + r3.2.2.2 + PhS r3.2.1 ≤ _
      rw [w2.1]; show r1.2.2.2 + 6 + PhS r3.2.1 ≤ _; omega
    · obtain ⟨i1, i2, i4, _⟩ := idx a
      rw [i4, i1] at k0
      exact absurd k0 (by decide)
  have k0' : ¬ tkK (τ.2.2 3) n (sk (τ.2.2 3) n 0) = 0 := fun k0 => by
    rw [(w.1 k0).1] at e03
    exact absurd e03 (by decide)
  obtain ⟨w1, w2, lx⟩ := w.2.1 k0'
  obtain ⟨kd, st, en, hi, lo, es⟩ := w.2.2
  have fr3 : HfT σ r3.2.1 := HfT_tr fr1 (by rw [es]; exact HfT_sA)
  have ph3 := Ph_s (σ := r1.2.1) (σ' := r3.2.1) (by rw [es]; rfl)
  have w21 : r3.2.2.1 = 0 ∧ r3.2.2.2 = 0 := by rw [w2]; exact ⟨rfl, rfl⟩
  clear es w adv w2
  obtain ⟨l1, l2, l3, l4, l5, l6, l7, l8, l9⟩ := lx
  -- refused
  have fail : ¬ VaN E.1 (τ.2.2 3) n → VlQ j σ τ ((1, 0), r3.2.1, (r1.2.2.1 + (r3.2.2.1 + 1), r1.2.2.2 + (r3.2.2.2 + 6))) := fun na => no _ rfl fr3 l1 l2 (by show r1.2.2.1 + (r3.2.2.1 + 1) + PhC r3.2.1 ≤ _; omega) (by show r1.2.2.2 + (r3.2.2.2 + 6) + PhS r3.2.1 ≤ _; omega) na
  have b5 : ∀ L' : LV, ¬ VaN E.1 (τ.2.2 3) n → Tm (fun k => f_X11_value k 5 L' r3.2.1) (fun q => VlQ j σ τ (q.1, q.2.1, (r1.2.2.1 + (r3.2.2.1 + q.2.2.1), r1.2.2.2 + (r3.2.2.2 + q.2.2.2)))) := fun L' na => Tm_suc (fun k => by rw [f_X11_value]) (Tm_some (fail na))
  have b1 : ∀ L' : LV, ¬ VaN E.1 (τ.2.2 3) n → Tm (fun k => f_X11_value k 1 L' r3.2.1) (fun q => VlQ j σ τ (q.1, q.2.1, (r1.2.2.1 + (r3.2.2.1 + q.2.2.1), r1.2.2.2 + (r3.2.2.2 + q.2.2.2)))) := fun L' na => by
    refine Tm_suc (fun k => by rw [f_X11_value]) ?_
    refine Tm_suc (fun k => by rw [f_X11_value]) ?_
    refine Tm_yes lI_same ?_
    refine Tm_suc (fun k => by rw [f_X11_value]) ?_
    refine Tm_suc (fun k => by rw [f_X11_value]) ?_
    refine Tm_yes lI_same ?_
    exact b5 _ na
  refine Tm_ite (fun c2 => ?_) (fun c2 => b1 _ (fun a => ?_))
  case refine_2 =>
    obtain ⟨i1, i2, i4, _⟩ := idx a
    rw [i4, i1] at l6
    exact c2 l6
  refine Tm_ite (fun c3 => ?_) (fun c3 => b1 _ (fun a => ?_))
  case refine_2 =>
    obtain ⟨i1, i2, i4, _⟩ := idx a
    rw [i4] at l7
    exact c3 l7
  refine Tm_ite (fun c4 => ?_) (fun c4 => b1 _ (fun a => ?_))
  case refine_2 =>
    obtain ⟨i1, i2, i4, _⟩ := idx a
    rw [i4, i2] at l8
    exact c4 (l8.trans l1.1.symm)
  have q0 : sk (τ.2.2 3) n 0 = 0 := nI_inj (l7.symm.trans c3) (by omega) (by decide)
  rw [q0] at l5 l6 l8 l9
  have kk : tkK (τ.2.2 3) n 0 = 26 := (ck_e (tk_v (Nat.zero_le n) l5) (by omega)).1 (l6.symm.trans c2)
  have te := tkE_b (τ.2.2 3) n 0 (Nat.zero_le n)
  have en : tkE (τ.2.2 3) n 0 = n := nI_inj (l8.symm.trans (c4.trans l1.1)) (by omega) (by omega)
  obtain ⟨⟨ky1, ky2⟩, ky3⟩ := l9 kk
  have sc : sCur r3.2.1 = sCur σ := fr3.2.2.1.1
  have tb3 : TbR (sCur σ) (tbE 0 E) r3.2.1 := by
    obtain ⟨h1, h2, h3⟩ := HfT_cd fr3 (sCur σ)
    have p13 := pR_13 (sCur σ)
    exact TbR_s tb (h3 11 (by decide)) (by rw [fr3.2.1.2.2]) (by rw [fr3.2.1.2.2]) (fr3.2.1.1 _ (by omega)) (fr3.2.1.1 _ (by omega)) (fr3.2.1.1 _ (by omega)) (fr3.2.1.1 _ (by omega))
  refine Tm_suc (fun k => by rw [f_X11_value]) ?_
  refine Tm_no (by show ¬ (lI lZ 100 1).1 100 = 0; rw [lI_same]; decide) ?_
  rw [sc]
  refine Tm_op (c_found (tb := tbE 0 E) (bs := tkS (τ.2.2 3) n 0) (L := lJ (lJ (lB lZ 0 (sCur σ)) 1 (r3.2.1.2.1 3705)) 3 (r3.2.1.2.1 3706)) tb3 rfl ky3 ky1 ky2) (fun r4 z => ?_)
  obtain ⟨z1, z2⟩ := z
  rw [z1]
  rcases z2 with ⟨i, ei, li⟩ | ⟨em, ln⟩
  case inr =>
    refine Tm_suc (fun k => by rw [f_X11_value]) ?_
    refine Tm_yes (lI_same.trans em) ?_
    refine b5 _ (fun a => ?_)
    obtain ⟨_, _, _, x, x1, x2, x3⟩ := idx a
    obtain ⟨i, hi, e⟩ := tbE_of nl x1
    exact ln i hi ⟨by rw [e, x3]; rfl, by rw [e]; rfl⟩
  have ti := tb3.2.2 i li.1
  have i256 : i < 256 := Nat.lt_of_lt_of_le li.1 tb3.2.1
  obtain ⟨x, gx, ex⟩ := tbE_at nl li.1
  rw [ex] at ti
  have mx : x ∈ E.1 := List.mem_of_getElem? gx
  have nx : x.1 = tkS (τ.2.2 3) n 0 := by
    have := li.2.1.1
    rw [ex] at this
    exact this
  obtain ⟨_, _, _, r7, _, r9, _⟩ := ti
  have r7' : r3.2.1.2.2.1 (pR7 (sCur σ)) i = nI (x.2.2.1 - 1) := r7
  have r9' : r3.2.1.2.2.1 (pR9 (sCur σ)) i = nI (if x.2.2.1 = 1 then x.2.2.2 else x.2.2.2 + 1) := r9
  have dx := (de.2.2.2.1 x mx).2
  refine Tm_suc (fun k => by rw [f_X11_value]) ?_
  rw [lI_same, ei]
  refine Tm_no (fun e => absurd (u_eq.1 e) (by rw [u_n (by omega)]; show ¬ i = 4294967295; omega)) ?_
  refine Tm_chk (n_in (by omega) i256) ?_
  rw [n_cl (p := i) (by omega), sc, r7']
  refine Tm_ite (fun c7 => ?_) (fun c7 => b5 _ (fun a => ?_))
  case refine_2 =>
    obtain ⟨_, _, _, y, y1, y2, y3⟩ := idx a
    have := pw_ij2 de.2.2.1 mx y1 (nx.trans y3)
    rw [this, y2] at c7
    exact c7 rfl
  have k1 : x.2.2.1 = 1 := by
    have : x.2.2.1 - 1 = 0 := nI_inj (show nI (x.2.2.1 - 1) = nI 0 from c7) (by omega) (by decide)
    omega
  rw [if_pos k1] at r9'
  have va : VaN E.1 (τ.2.2 3) n := by
    have bs : tkS (τ.2.2 3) n 0 = seg (τ.2.2 3) 0 n := by unfold tkS; rw [en]
    refine ⟨x, mx, k1, by rw [nx, bs, seg_len]; omega, fun k hk => ?_⟩
    rw [nx, bs, seg_at (by omega), Nat.zero_add]
  refine Tm_suc (fun k => by rw [f_X11_value]) ?_
  rw [lI_same]
  refine Tm_chk (n_in (by omega) i256) ?_
  rw [n_cl (p := i) (by omega)]
  generalize hs4 : uI r3.2.1 3701 0 = s4
  have fr4 : HfT σ s4 := by rw [← hs4]; exact HfT_tr fr3 (HfT_i (Or.inl ⟨by decide, by decide⟩))
  have sc4 : sCur s4 = sCur σ := fr4.2.2.1.1
  have f37 : s4.1 3701 = 0 := by rw [← hs4, uI_s]
  have ph4 := Ph_s (σ := r3.2.1) (σ' := s4) (by rw [← hs4]; rfl)
  have r94 : s4.2.2.1 (pR9 (sCur s4)) i = nI x.2.2.2 := by rw [sc4, ← hs4]; exact r9'
  have ok4 : tOK s4 := by
    obtain ⟨h1, h2, h3, h4, h5, _⟩ := l1
    unfold tOK
    rw [f37, show sN s4 38 = sN r3.2.1 38 by rw [← hs4]; rfl, show s4.2.2.1 38 = r3.2.1.2.2.1 38 by rw [← hs4]; rfl]
    have z0 : (0 : Int32).toInt = 0 := rfl
    exact ⟨by omega, by omega, by omega, h4, h5⟩
  clear hs4
  have ic4 : IC XE j s4 := IC_tq (n2 := 0) ic0 fr4 ok4 f37 (fun _ _ _ => Nat.zero_le _)
  have e11' : s4.1 7511 = σ.1 7511 := fr4.1.1 7511 (by decide)
  obtain ⟨g, l, t, hq, hv, hg, hc⟩ := IC_g2 ic4 hj (by rw [e11']; exact nz)
  obtain ⟨⟨g1, g2⟩, g3⟩ := hg _ _ x hX mx k1
  have h8 : uN (s4.1 7518) ≤ 2 := by obtain ⟨n, sz, _, _, ⟨_, q, _⟩, _⟩ := ic4; exact q
  have hb : BY False s4 := by obtain ⟨n, sz, _, _, _, ⟨_, q⟩, _⟩ := ic4; exact q
  have x60 : x.2.2.2 < 60 := by have := de.2.1.2.1; omega
  rw [r94]
  refine Tm_op (c_global (L := lI lZ 1 (nI x.2.2.2)) (n := x.2.2.2) (by show uN (nI x.2.2.2) = _; rw [u_n (by omega)]) g1 g2) (fun r5 z5 => ?_)
  rw [z5]
  refine Tm_oxc (c_show (L := lI lZ 1 (s4.2.2.1 20 (4 + x.2.2.2))) hq hv hb h8 g3) (fun r z => z.1) (fun r6 z6 => Tm_some ?_)
  obtain ⟨y1, y2, y3, y4, y5, y6, y7⟩ := z6
  have ic6 := hc r6.2.1 y3 y4 y5 y6 y7
  obtain ⟨k1', k2', k3'⟩ := SwF_M y3
  have v1 : r6.2.2.1 + PhC r6.2.1 ≤ PhC s4 := y2.1
  have v2 : r6.2.2.2 + PhS r6.2.1 ≤ PhS s4 := y2.2
  refine ⟨Or.inl rfl, by show r1.2.2.1 + (r3.2.2.1 + (r6.2.2.1 + 0)) + PhC r6.2.1 ≤ _; omega, by show r1.2.2.2 + (r3.2.2.2 + (r6.2.2.2 + 0)) + PhS r6.2.1 ≤ _; omega, ?_⟩
  refine Tm_mono ref (fun q w => ⟨?_, trivial⟩)
  obtain ⟨w1', ⟨w2', w3', w4'⟩, w5'⟩ := w
  show IB (j + 1) r6.2.1 q.2
  rcases w5' with ⟨_, na⟩ | ⟨q4, _⟩
  · exact absurd va na
  · exact ⟨XE, ic6, w1', tRel_0 ((k1' 3701 (by decide) (by decide)).trans f37) q4, by rw [k1' 7510 (by decide) (by decide), fr4.1.1 7510 (by decide), w3']; exact e10, by rw [k1' 7511 (by decide) (by decide), e11', w4']; exact e11, by rw [k1' 7513 (by decide) (by decide), fr4.1.1 7513 (by decide), w2']; exact e13⟩
end DZG
end JnS558
