/-! The house: feed, end, shape, order. -/
section DYY
variable {σ s : CS} {ρ τ ω : MS} {b : Bool} {sz j n n2 V : Nat} {XE : XEt} {L : LV} {c : Ct} {gl : List Gn} {pr : Nat → Nat}
/-- all but tape, lexer, parser -/
def HfT (σ s : CS) : Prop := ((∀ i, ¬ (i = 404 ∨ (3701 ≤ i ∧ i ≤ 3704) ∨ (4003 ≤ i ∧ i ≤ 4020) ∨ i = 7512 ∨ i = 7519) → s.1 i = σ.1 i) ∧ ∀ i, ¬ (i = 3705 ∨ i = 3706) → s.2.1 i = σ.2.1 i) ∧ ((∀ k, ¬ ((5 ≤ k ∧ k ≤ 11) ∨ k = 38) → s.2.2.1 k = σ.2.2.1 k) ∧ (∀ k, ¬ k = 38 → sN s k = sN σ k) ∧ s.2.2.2.1 = σ.2.2.2.1) ∧ (sCur s = sCur σ ∧ sOt s = sOt σ ∧ sPr s = sPr σ ∧ sKd s = sKd σ) ∧ s.2.2.2.2.2.2 = σ.2.2.2.2.2.2
theorem HfT_m (h : HfT σ s) : PFm σ s := ⟨⟨fun j hj n4 => h.1.1 j (by omega), fun j hj => h.1.2 j (by omega)⟩, fun k hk => ⟨h.2.1.1 k (by omega), h.2.1.2.1 k (by omega)⟩, h.2.2.2⟩
theorem HfT_cd (h : HfT σ s) (d : Bool) : (∀ i, cdr d s i = cdr d σ i) ∧ cdn d s = cdn d σ ∧ ∀ i, i ≤ 19 → s.1 (fP d i) = σ.1 (fP d i) := by
  obtain ⟨B, hB, fB, _⟩ := fP_B d
  have p0 := pR0_c (sKd σ d)
  refine ⟨fun i => ?_, ?_, fun i hi => ?_⟩
  · show s.2.2.1 (pR0 (sKd s d)) i = σ.2.2.1 (pR0 (sKd σ d)) i
    rw [h.2.2.1.2.2.2, h.2.1.1 _ (by omega)]
  · show sN s (pR0 (sKd s d)) = sN σ (pR0 (sKd σ d))
    rw [h.2.2.1.2.2.2, h.2.1.2.1 _ (by omega)]
  · have := fB i
    exact h.1.1 _ (by omega)
theorem HfT_CdL (h : HfT σ s) {d : Bool} (cd : CdL d sz σ) : CdL d sz s := by
  obtain ⟨h1, h2, h3⟩ := HfT_cd h d
  exact ⟨(h3 1 (by decide)).trans cd.1, by rw [h2]; exact cd.2.1, by rw [h2, h.2.1.2.1 43 (by decide), h.2.1.2.1 51 (by decide)]; exact cd.2.2⟩
theorem HfT_pg (h : HfT σ s) (p : PgI gl pr b sz V c σ) : PgI gl pr b sz V c s := by
  obtain ⟨h1, h2, h3⟩ := HfT_cd h b
  have p13 := pR_13 b
  obtain ⟨E, nu, vg, e0, MD, e, ⟨tb, de⟩, ⟨ut, r18⟩, pg, ⟨eN, cd⟩, ⟨en1, en2, en3⟩, vw⟩ := p
  have rr := h.2.1.1
  refine ⟨E, nu, vg, e0, MD, e, ⟨TbR_s tb (h3 11 (by decide)) (by rw [h.2.1.2.2]) (by rw [h.2.1.2.2]) (rr _ (by omega)) (rr _ (by omega)) (rr _ (by omega)) (rr _ (by omega)), de⟩, ⟨fun i hi => ?_, by rw [rr _ (by omega)]; exact r18⟩, pg, ⟨eN, fun i hi => (h1 i).trans (cd i hi)⟩, ⟨(h3 2 (by decide)).trans en1, en2, en3⟩, fun i hi => by rw [rr 64 (by decide)]; exact vw i hi⟩
  rw [rr (pR13 b) (by omega), rr (pR14 b) (by omega), rr (pR18 b) (by omega), rr (pR15 b) (by omega)]
  exact ut i hi
theorem HfT_ct (h : HfT σ s) : CtX (cM c b σ) (cM c b s) := by
  have p13 := pR_13 b
  refine ⟨?_, ?_, rfl, fun p x e => e⟩
  · show (fun u => uN (s.2.2.1 (pR14 b) u)) = fun u => uN (σ.2.2.1 (pR14 b) u)
    rw [h.2.1.1 (pR14 b) (by omega)]
  · show (fun u => uN (s.2.2.1 (pR18 b) u)) = fun u => uN (σ.2.2.1 (pR18 b) u)
    rw [h.2.1.1 (pR18 b) (by omega)]
/-- the tape alone, and what is read of it, may be another -/
theorem IC_tp (h : IC XE j σ) (hj : j < 512) (fr : HfT σ s) (ok : tOK s) (e : s.1 3701 = nI n2) (hn : ∀ n, σ.1 3701 = nI n → n ≤ 20 * j → n2 ≤ n + 20) : IC XE (j + 1) s := by
  obtain ⟨n, sz, ⟨t1, t2, t3, t4⟩, ⟨p1, p2, p3, p4, p5, p6⟩, ⟨q1, q2, q3⟩, ⟨m1, m2⟩, pp⟩ := h
  have fm := HfT_m fr
  have l := hn n t2 t3
  have ff := fr.1.1
  have sc := fr.2.2.1.1
  refine ⟨n2, sz, ⟨ok, e, by omega, by rw [fr.2.1.2.2]; exact t4⟩, ⟨by rw [sc, fr.2.2.1.2.1]; exact p1, fun d => ?_, by rw [fr.2.1.2.1 41 (by decide)]; exact p3, by rw [fr.2.1.2.1 42 (by decide)]; exact p4, by rw [sc]; exact HfT_CdL fr p5, by omega⟩, ⟨by rw [ff 7517 (by decide), fr.2.1.2.1 66 (by decide)]; exact q1, by rw [ff 7518 (by decide)]; exact q2, by rw [ff 7513 (by decide)]; exact q3⟩, ⟨Hmx_m fm m1, BY_m fm m2⟩, ?_⟩
  · have p13 := pR_13 d
    exact ⟨by rw [fr.2.1.1 _ (by omega)]; exact (p2 d).1, by rw [fr.2.1.1 _ (by omega)]; exact (p2 d).2⟩
  · rw [ff 7510 (by decide), ff 7511 (by decide), ff 7513 (by decide), sc]
    refine pp.imp id (fun ⟨k0, gl, pr, c, k2, k3, k4⟩ => ⟨k0, gl, pr, c, k2, HfT_pg fr k3, fun z => ?_⟩)
    obtain ⟨y1, y2, y3⟩ := k4 z
    have e9 : s.1 1903 = σ.1 1903 := ff 1903 (by decide)
    exact ⟨fr.2.2.1.2.2.1.trans y1, Mst_m (HfT_ct fr) fm (ct_M (fr.2.2.1.2.2.1.trans y1)) y2, by rw [e9]; omega⟩
theorem HfT_tC {l : Int32} {row : Nat → Int32} {m : Nat} : HfT σ (tC σ l row m) := by
  refine ⟨⟨fun i hi => ?_, fun _ _ => rfl⟩, ⟨fun k hk => ?_, fun k hk => ?_, rfl⟩, ⟨rfl, rfl, rfl, rfl⟩, rfl⟩
  · show upd σ.1 3701 l i = σ.1 i
    exact upd_other (by omega)
  · exact updG_other (by omega)
  · show updN (sN σ) 38 m k = sN σ k
    exact if_neg hk
theorem HfT_37 {x : Int32} : HfT σ (uI σ 3701 x) := ⟨⟨fun i hi => uI_o (by omega), fun _ _ => rfl⟩, ⟨fun _ _ => rfl, fun _ _ => rfl, rfl⟩, ⟨rfl, rfl, rfl, rfl⟩, rfl⟩
theorem hp_feed (hj : j < 512) (a1 a2 a3 a4 a5 : Int32) : cPr j (fun x => x = 0 ∨ x = 4) (fun σ k => f_X11_feed k 0 (lI (lI (lI (lI (lI lZ 1 a1) 2 a2) 3 a3) 4 a4) 5 a5) σ) (fun τ k => x_feed k 0 (upd (upd (upd (upd (upd (fun _ => 0) 1 a1) 2 a2) 3 a3) 4 a4) 5 a5) τ) (fun _ _ => True) := by
  intro σ τ h
  obtain ⟨XE, ic, rf, tr, e10, e11, e13⟩ := h
  have ic0 := ic
  obtain ⟨n, sz, ⟨t1, t2, t3, t4⟩, _⟩ := ic
  have i37 : (σ.1 3701).toInt = n := by rw [t2, n_int (by omega)]
  have e4 : τ.1 4 = nI n := tr.1.symm.trans t2
  have i4 : (τ.1 4).toInt = n := by rw [e4, n_int (by omega)]
  refine Tm_mono (s_Cfeed (lI (lI (lI (lI (lI lZ 1 a1) 2 a2) 3 a3) 4 a4) 5 a5) σ t1) (fun r z => ?_)
  rw [if_pos (by omega)] at z
  obtain ⟨z1, z2⟩ := z
  have fs := feed_same (τ := τ) (M := upd (upd (upd (upd (upd (fun _ => 0) 1 a1) 2 a2) 3 a3) 4 a4) 5 a5) t1 tr (fun k h1 h2 => by
    have : k = 1 ∨ k = 2 ∨ k = 3 ∨ k = 4 ∨ k = 5 := by omega
    rcases this with rfl | rfl | rfl | rfl | rfl <;> rfl) (by omega) z2
  obtain ⟨row, m, y1, y2, y3, y4, y5, y6, y7, y8, y9⟩ := z2
  have fr : HfT σ r.2.1 := by rw [y1]; exact HfT_tC
  have ph := Ph_38 (σ := σ) (σ' := r.2.1) (fun k hk => fr.2.1.2.1 k hk)
  have nm : sN r.2.1 38 = m := by rw [y1]; exact tC_n
  have e37 : r.2.1.1 3701 = nI (n + 20) := by
    rw [y1, tC_len, t2]
    exact n_add (p := n) (q := 20) (by omega)
  rw [nm] at ph
  refine ⟨Or.inl (by rw [z1]), by omega, by omega, ?_⟩
  refine Tm_mono (Tm_and (rj_feed rf) (s_feed _ τ (by omega) (by omega))) (fun q w => ⟨?_, trivial⟩)
  obtain ⟨w1, w2⟩ := w
  rw [if_pos (by omega)] at w2
  obtain ⟨w3, _⟩ := w2
  obtain ⟨k1, k2, k3⟩ := mTape_rest (upd τ.1 2 0, τ.2.1, τ.2.2) (upd (upd (upd (upd (upd (fun _ => 0) 1 a1) 2 a2) 3 a3) 4 a4) 5 a5) 20
  have qq : ∀ i, ¬ (i = 2 ∨ i = 4) → q.2.1 i = τ.1 i := fun i hi => by
    rw [w3, k2 i (by omega)]
    exact upd_other (by omega)
  refine ⟨XE, IC_tp ic0 hj fr fs.2 e37 (fun n' e' l' => ?_), w1, by rw [w3]; exact fs.1, by rw [fr.1.1 7510 (by decide), qq 111 (by decide)]; exact e10, by rw [fr.1.1 7511 (by decide), qq 112 (by decide)]; exact e11, by rw [fr.1.1 7513 (by decide), qq 73 (by decide)]; exact e13⟩
  have := nI_inj (t2.symm.trans e') (by omega) (by omega)
  omega
theorem hp_end (hj : j < 512) (a1 : Int32) : cPr j (fun x => x = 0 ∨ x = 1) (fun σ k => f_X11_end k 0 (lI lZ 1 a1) σ) (fun τ k => x_end k 0 (upd (fun _ => 0) 1 a1) τ) (fun _ _ => True) := by
  intro σ τ h
  have h0 := h
  obtain ⟨XE, ic, rf, tr, e10, e11, e13⟩ := h
  have ic0 := ic
  obtain ⟨n, sz, ⟨t1, t2, t3, t4⟩, _⟩ := ic
  refine Tm_mono (s_Cend (lI lZ 1 a1) σ) (fun r z => ?_)
  have mm := Tm_and (rj_end (L := upd (fun _ => 0) 1 a1) rf) (s_end (upd (fun _ => 0) 1 a1) τ)
  by_cases c : ¬ a1 < 0 ∧ a1 ≤ σ.1 3701
  · rw [if_pos (show ¬ (lI lZ 1 a1).1 1 < 0 ∧ (lI lZ 1 a1).1 1 ≤ σ.1 3701 from c)] at z
    rw [z]
    have ph := Ph_s (σ := σ) (σ' := uI σ 3701 a1) rfl
    refine ⟨Or.inl rfl, by show 0 + PhC (uI σ 3701 a1) ≤ _; omega, by show 0 + PhS (uI σ 3701 a1) ≤ _; omega, ?_⟩
    refine Tm_mono mm (fun q w => ⟨?_, trivial⟩)
    obtain ⟨w1, w2⟩ := w
    rw [if_pos (show ¬ (upd (fun _ => 0) 1 a1 : Nat → Int32) 1 < 0 ∧ (upd (fun _ => 0) 1 a1 : Nat → Int32) 1 ≤ τ.1 4 from ⟨c.1, by rw [← tr.1]; exact c.2⟩)] at w2
    have es := end_same t1 tr c
    obtain ⟨m, e1, e2⟩ := n_ofnn c.1
    have hm : m ≤ n := by
      have := c.2
      rw [e1, t2] at this
      exact (n_le e2 (by omega)).mp this
    have qq : ∀ i, ¬ (i = 2 ∨ i = 4) → q.2.1 i = τ.1 i := fun i hi => by
      rw [w2]
      show upd (upd τ.1 2 0) 4 a1 i = _
      rw [upd_other (by omega), upd_other (by omega)]
    show IB (j + 1) (uI σ 3701 a1) q.2
    refine ⟨XE, IC_tp (n2 := m) ic0 hj HfT_37 es.2 (by show (uI σ 3701 a1).1 3701 = nI m; rw [uI_s]; exact e1) (fun n' e' l' => ?_), w1, by rw [w2]; exact es.1, by rw [show (uI σ 3701 a1).1 7510 = σ.1 7510 from uI_o (by decide), qq 111 (by decide)]; exact e10, by rw [show (uI σ 3701 a1).1 7511 = σ.1 7511 from uI_o (by decide), qq 112 (by decide)]; exact e11, by rw [show (uI σ 3701 a1).1 7513 = σ.1 7513 from uI_o (by decide), qq 73 (by decide)]; exact e13⟩
    have := nI_inj (t2.symm.trans e') (by omega) (by omega)
    omega
  · rw [if_neg (show ¬ (¬ (lI lZ 1 a1).1 1 < 0 ∧ (lI lZ 1 a1).1 1 ≤ σ.1 3701) from c)] at z
    rw [z]
    refine ⟨Or.inr rfl, by show 1 + PhC σ ≤ _; omega, by show 6 + PhS σ ≤ _; omega, ?_⟩
    refine IB_k2 (gM := fun k => x_end k 0 (upd (fun _ => 0) 1 a1) τ) h0 hj (fun XE rf => ?_)
    refine Tm_mono (Tm_and (rj_end (L := upd (fun _ => 0) 1 a1) rf) (s_end (upd (fun _ => 0) 1 a1) τ)) (fun q w => ⟨w.1, ?_⟩)
    have w2 := w.2
    rw [if_neg (fun y : ¬ (upd (fun _ => 0) 1 a1 : Nat → Int32) 1 < 0 ∧ (upd (fun _ => 0) 1 a1 : Nat → Int32) 1 ≤ τ.1 4 => c ⟨y.1, by rw [tr.1]; exact y.2⟩)] at w2
    rw [w2]
    exact KpT_2 (x := 1)
/-- values that are kept -/
theorem Hmx_v (h : Hmx σ) : ∃ (g : Nat → Prop) (l : List Nat) (t : Nat), HQ g l t σ ∧ ∀ i, i < 27 → Gv g (σ.2.2.1 67 i) := by
  obtain ⟨g, l, t, K4, h1, h2, h3, h4, h5⟩ := h
  exact ⟨g, l, t, h1, fun i hi => (h4 i hi).2.1 rfl⟩
theorem hp_order (hj : j < 512) : cPy j (fun σ k => y_X11_order k 0 lZ σ) (fun τ k => x_order k 0 (fun _ => 0) τ) := by
  intro σ τ h
  have h0 := h
  obtain ⟨XE, ⟨n, sz, _, _, _, ⟨hm, _⟩, _⟩, _⟩ := h
  obtain ⟨g, l, t, hq, hv⟩ := Hmx_v hm
  show Tm (fun k => y_X11_order k 0 lZ σ) _
  have b2 : ∀ L' : LV, Tm (fun k => y_X11_order k 2 L' σ) (fun r => PhC r.2 ≤ PhC σ ∧ PhS r.2 ≤ PhS σ ∧ Tm (fun k => x_order k 0 (fun _ => 0) τ) (fun q => IB (j + 1) r.2 q.2)) := fun L' => by
    refine Tm_suc (fun k => by rw [y_X11_order]) ?_
    exact Tm_some ⟨Nat.le_refl _, Nat.le_refl _, IB_k h0 hj (fun XE rf => rj_order rf)⟩
  refine Tm_suc (fun k => by rw [y_X11_order]) ?_
  refine Tm_ite (fun _ => ?_) (fun _ => b2 _)
  refine Tm_suc (fun k => by rw [y_X11_order]) ?_
  refine Tm_chk (by decide) (Tm_chk (by decide) ?_)
  refine Tm_oc (c_compare (L := lI (lI lZ 1 (σ.2.2.1 67 0)) 2 (σ.2.2.1 67 1)) hq (hv 0 (by decide)) (hv 1 (by decide))) (fun r z => ?_)
  have e : r.2 = σ := z
  rw [e]
  exact b2 _
theorem hp_shape (hj : j < 512) (a1 : Int32) : cPr j (fun x => x = 0 ∨ x = 3) (fun σ k => f_X11_shape k 0 (lI lZ 1 a1) σ) (fun τ k => x_shape k 0 (upd (fun _ => 0) 1 a1) τ) (fun _ _ => True) := by
  refine cPr_k hj (fun σ τ h => ?_) (fun XE τ rf => rj_shape rf)
  obtain ⟨XE, ⟨n, sz, _, _, _, ⟨hm, _⟩, _⟩, _⟩ := h
  obtain ⟨g, l, t, hq, hv⟩ := Hmx_v hm
  have ok : ∀ x : Int32, (fun r : RS => (r.1.1 = 0 ∨ r.1.1 = 3) ∧ r.2.1 = σ ∧ r.2.2.1 ≤ 1 ∧ r.2.2.2 ≤ 6) ((0, x), σ, (0, 0)) := fun x => ⟨Or.inl rfl, rfl, Nat.zero_le _, Nat.zero_le _⟩
  have no : ∀ L' : LV, Tm (fun k => f_X11_shape k 1 L' σ) (fun r => (r.1.1 = 0 ∨ r.1.1 = 3) ∧ r.2.1 = σ ∧ r.2.2.1 ≤ 1 ∧ r.2.2.2 ≤ 6) := fun L' => Tm_suc (fun k => by rw [f_X11_shape]) (Tm_some ⟨Or.inr rfl, rfl, Nat.le_refl _, Nat.le_refl _⟩)
  have b9 : ∀ L' : LV, Tm (fun k => f_X11_shape k 9 L' σ) (fun r => (r.1.1 = 0 ∨ r.1.1 = 3) ∧ r.2.1 = σ ∧ r.2.2.1 ≤ 1 ∧ r.2.2.2 ≤ 6) := fun L' => Tm_suc (fun k => by rw [f_X11_shape]) (Tm_some (ok _))
  refine Tm_suc (fun k => by rw [f_X11_shape]) ?_
  refine Tm_ite (fun _ => no _) (fun _ => Tm_ite (fun _ => ?_) (fun _ => no _))
  refine Tm_suc (fun k => by rw [f_X11_shape]) ?_
  refine Tm_ite (fun _ => Tm_some (ok _)) (fun _ => ?_)
  refine Tm_suc (fun k => by rw [f_X11_shape]) ?_
  refine Tm_ite (fun _ => Tm_some (ok _)) (fun _ => ?_)
  refine Tm_suc (fun k => by rw [f_X11_shape]) ?_
  refine Tm_chk (by decide) ?_
  refine Tm_op (c_kind (L := lI lZ 1 (σ.2.2.1 67 0)) hq (hv 0 (by decide))) (fun r z => ?_)
  rw [z]
  refine Tm_ite (fun _ => ?_) (fun _ => Tm_ite (fun _ => ?_) (fun _ => ?_))
  · exact Tm_suc (fun k => by rw [f_X11_shape]) (Tm_some (ok _))
  · refine Tm_suc (fun k => by rw [f_X11_shape]) ?_
    refine Tm_op (c_size (L := lI lZ 1 (σ.2.2.1 67 0)) hq (hv 0 (by decide))) (fun r2 z2 => Tm_some ?_)
    rw [z2.1]
    exact ok _
  · refine Tm_suc (fun k => by rw [f_X11_shape]) ?_
    refine Tm_ite (fun _ => ?_) (fun _ => ?_)
    · exact Tm_suc (fun k => by rw [f_X11_shape]) (b9 _)
    · refine Tm_op (c_length (L := lI lZ 1 (σ.2.2.1 67 0)) hq (hv 0 (by decide))) (fun r2 z2 => ?_)
      rw [z2]
      exact b9 _
end DYY
