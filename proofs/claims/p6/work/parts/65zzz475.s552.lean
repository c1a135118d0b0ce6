/-! The house: start, step, back, on both sides. -/
section DZA
variable {σ s : CS} {ρ τ ω : MS} {b : Bool} {sz j n n2 V : Nat} {XE : XEt} {L : LV} {c : Ct} {gl : List Gn} {pr : Nat → Nat}
theorem HfM_7 {x : Int32} : HfM σ (uI σ 7511 x) := ⟨fun i _ h2 => uI_o (by omega), fun _ _ => ⟨rfl, rfl⟩, rfl, ⟨rfl, rfl, rfl⟩⟩
theorem PFm_7 {x : Int32} {i : Nat} (hi : 3700 ≤ i) : PFm σ (uI σ i x) := ⟨⟨fun j hj _ => uI_o (by omega), fun _ _ => rfl⟩, fun _ _ => ⟨rfl, rfl⟩, rfl⟩
theorem HfM_rel (fr : HfM σ s) (h : tRel σ τ) : tRel s τ := tRel_s h (fr.1 3701 (by decide) (by decide)) (fr.2.1 38 (by omega)).1
/-- the machine opens the program that stands -/
theorem c_st {x : Int64} (h : IC XE j σ) (h10 : ¬ σ.1 7510 = 0) : Tm (fun k => f_X11_start k 1 (lJ lZ 1 x) σ) (fun r => r.1 = (0, 0) ∧ CoP σ r ∧ HfM σ r.2.1 ∧ r.2.1.1 7511 = 1 ∧ sPr r.2.1 = some (sCur σ) ∧ uN (r.2.1.1 1903) = 0 ∧ ∃ (sz : Nat) (gl : List Gn) (pr : Nat → Nat) (c : Ct), XE = some (gl, pr) ∧ PgI gl pr (sCur σ) sz (uN (σ.1 7513)) c σ ∧ CdL (sCur σ) sz σ ∧ Mst (cM c (sCur σ) σ) r.2.1) := by
  obtain ⟨n, sz, ⟨t1, t2, t3, t4⟩, ⟨p1, p2, p3, p4, p5, p6⟩, ⟨q1, q2, q3⟩, ⟨m1, m2⟩, pp⟩ := h
  obtain ⟨k0, gl, pr, c, k2, k3, k4⟩ := pp.resolve_left (fun z => h10 z.1)
  have ck := ck_M k3 p5 (p2 _).1
  have en := en_M k3 p5
  have fs := fs_M k3 p5
  have f7 : PFm σ (uI σ 7511 1) := PFm_7 (by decide)
  obtain ⟨g, l, t, K4, hb⟩ := Hmx_m f7 m1
  have fc := fP_c (sCur σ) 2
  have e2 : (uI σ 7511 1).1 (fP (sCur σ) 2) = σ.1 (fP (sCur σ) 2) := uI_o (by omega)
  have en' : EnP (cM c (sCur σ) σ) (uI σ 7511 1) (sCur σ) := by
    unfold EnP at en ⊢
    rw [e2]
    exact en
  have ct : CtL (cM c (sCur σ) σ) (uPr (uI σ 7511 1) (some (sCur σ))) := ⟨sCur σ, rfl, rfl, rfl, fun u _ => ⟨rfl, rfl, rfl⟩⟩
  refine Tm_suc (fun k => by rw [f_X11_start]) ?_
  refine Tm_oxc (c_open (b := sCur σ) (L := lJ (lB lZ 1 (sCur (uI σ 7511 1))) 2 ((lJ lZ 1 x).2.1 1)) hb (BY_m f7 m2) rfl ct en') (fun r z => by rw [z.1]) (fun r1 z1 => ?_)
  obtain ⟨a1, a2, a3, a4, a5⟩ := z1
  have u0 : uN (r1.2.1.1 1903) = 0 := by rw [a2]; rfl
  refine Tm_oxc (c_advance2 (L := lI lZ 1 0) a5 ck fs.1 (by have := fs.2; omega) (by rw [u0]; show 0 + 0 ≤ _; omega)) (fun r z => by rw [z.1.1]) (fun r2 z2 => Tm_some ?_)
  obtain ⟨⟨b1, b2, b3, b4⟩, b5⟩ := z2
  rw [u0] at b5
  have b5' : uN (r2.2.1.1 1903) ≤ 0 + 0 := b5
  have ph := Ph_s (σ := σ) (σ' := uI σ 7511 1) rfl
  have h1 : HfM σ (uL (uPr (uI σ 7511 1) (some (sCur σ))) 1817 x) := ⟨fun i _ h2 => uI_o (by omega), fun _ _ => ⟨rfl, rfl⟩, rfl, ⟨rfl, rfl, rfl⟩⟩
  have h2 := HfM_t (HfM_t h1 (HfM_m a4)) (HfM_m b3)
  refine ⟨rfl, ⟨?_, ?_⟩, h2, ?_, ?_, by show uN (r2.2.1.1 1903) = 0; omega, sz, gl, pr, c, k2, k3, p5, b4⟩
  · have w1 := a3.1
    have w2 := b2.1
    show r1.2.2.1 + (r2.2.2.1 + 0) + PhC r2.2.1 ≤ PhC σ
    omega
  · have w1 := a3.2
    have w2 := b2.2
    show r1.2.2.2 + (r2.2.2.2 + 0) + PhS r2.2.1 ≤ PhS σ
    omega
  · show r2.2.1.1 7511 = 1
    rw [b3.1 7511 (by decide), a4.1 7511 (by decide)]
    exact (uI_s : (uI σ 7511 1).1 7511 = 1)
  · show r2.2.1.2.2.2.2.2.1.2.2.1 = _
    rw [b3.2.2.2.2, a4.2.2.2.2]
    rfl
/-- one step of both: a run stands behind -/
theorem IB_run (hic : IC XE (j + 1) s) (rf : RfJ XE (j + 1) ω) (fr : HfM σ s) (tr : tRel σ τ) (e10 : σ.1 7510 = 0 ↔ τ.1 111 = 0) (e13 : σ.1 7513 = τ.1 73) (k : KpT τ ω ∨ (ω.1 4 = τ.1 4 ∧ ω.2.2 3 = τ.2.2 3) ∧ ω.1 73 = τ.1 73 ∧ ω.1 111 = τ.1 111) (e11 : s.1 7511 = 0 ↔ ω.1 112 = 0) : IB (j + 1) s ω := by
  have tr2 := HfM_rel fr tr
  have e1 : s.1 7510 = σ.1 7510 := fr.1 7510 (by decide) (by decide)
  have e3 : s.1 7513 = σ.1 7513 := fr.1 7513 (by decide) (by decide)
  rcases k with k | ⟨⟨k1, k2⟩, k3, k4⟩
  · exact ⟨XE, hic, rf, KpT_rel tr2 k, by rw [e1, k.2.2.1]; exact e10, e11, by rw [e3, k.2.1]; exact e13⟩
  · refine ⟨XE, hic, rf, ?_, by rw [e1, k4]; exact e10, e11, by rw [e3, k3]; exact e13⟩
    unfold tRel at tr2 ⊢
    rw [k1, k2]
    exact tr2
theorem hp_start (hj : j < 512) (a1 a2 : Int32) : cPr j (fun x => x = 0 ∨ x = 2) (fun σ k => f_X11_start k 0 (lJ lZ 1 ((((((a1.toInt64)) <<< ((32 : Int32).toInt64 &&& 63))) ||| ((((a2.toInt64)) &&& 4294967295))))) σ) (fun τ k => x_start k 0 (fun _ => 0) (updW (fun _ => 0) 1 ((((((a1.toInt64)) <<< ((32 : Int32).toInt64 &&& 63))) ||| ((((a2.toInt64)) &&& 4294967295))))) τ) (fun r q => q.2.1 2 = wv 2 1 1 r.1.1) := by
  generalize (((((a1.toInt64)) <<< ((32 : Int32).toInt64 &&& 63))) ||| ((((a2.toInt64)) &&& 4294967295))) = x
  intro σ τ h
  obtain ⟨XE, ic, rf, tr, e10, e11, e13⟩ := h
  show Tm (fun k => f_X11_start k 0 (lJ lZ 1 x) σ) _
  refine Tm_suc (fun k => by rw [f_X11_start]) ?_
  refine Tm_ite (fun c => ?_) (fun c => ?_)
  · refine Tm_some ⟨Or.inr rfl, by show 1 + PhC σ ≤ _; omega, by show 6 + PhS σ ≤ _; omega, ?_⟩
    refine Tm_mono (rj_start rf) (fun q w => ?_)
    obtain ⟨w1, w2, w3, w4, w5, w6⟩ := w
    have c2 := e10.1 c
    rw [if_pos c2] at w2
    have n11 : σ.1 7511 = 0 := by
      obtain ⟨n, sz, _, _, _, _, pp⟩ := ic
      exact pp.elim (fun z => z.2.1) (fun z => absurd c z.1)
    refine ⟨IB_run (σ := σ) (IC_s ic hj) w1 ⟨fun _ _ _ => rfl, fun _ _ => ⟨rfl, rfl⟩, rfl, ⟨rfl, rfl, rfl⟩⟩ tr e10 e13 (Or.inr ⟨w3, w4, w5⟩) ⟨fun _ => w6.2 c2, fun _ => n11⟩, w2⟩
  · refine Tm_mono (c_st ic c) (fun r z => ?_)
    obtain ⟨z1, z2, z3, z4, z5, z6, sz, gl, pr, cc, y1, y2, y3, y4⟩ := z
    refine ⟨Or.inl (by rw [z1]), by have := z2.1; omega, by have := z2.2; omega, ?_⟩
    refine Tm_mono (rj_start rf) (fun q w => ?_)
    obtain ⟨w1, w2, w3, w4, w5, w6⟩ := w
    have c2 : ¬ τ.1 111 = 0 := fun e => c (e10.2 e)
    rw [if_neg c2] at w2
    have hic : IC XE (j + 1) r.2.1 := IC_run ic hj c z3 z5 ⟨sz, gl, pr, cc, y1, y2, y3, y4, by rw [z6]; exact Nat.zero_le _⟩
    exact ⟨IB_run hic w1 z3 tr e10 e13 (Or.inr ⟨w3, w4, w5⟩) ⟨fun e => absurd (z4.symm.trans e) (by decide), fun e => absurd (w6.1 e) c2⟩, by show q.2.1 2 = wv 2 1 1 r.1.1; rw [z1]; exact w2⟩
/-- a run stands: what is known -/
theorem IC_r (h : IC XE j σ) (h11 : ¬ σ.1 7511 = 0) : ¬ σ.1 7510 = 0 ∧ sPr σ = some (sCur σ) ∧ uN (σ.1 1903) ≤ 20000 * j ∧ ∃ (sz : Nat) (gl : List Gn) (pr : Nat → Nat) (c : Ct), XE = some (gl, pr) ∧ PgI gl pr (sCur σ) sz (uN (σ.1 7513)) c σ ∧ CdL (sCur σ) sz σ ∧ Mst (cM c (sCur σ) σ) σ ∧ CkA (cM c (sCur σ) σ) ∧ EnP (cM c (sCur σ) σ) σ (sCur σ) ∧ tcS (cM c (sCur σ) σ) 0 ∧ tcF (cM c (sCur σ) σ) 0 ≤ 200 := by
  obtain ⟨n, sz, t, ⟨p1, p2, p3, p4, p5, p6⟩, q, m, pp⟩ := h
  obtain ⟨k0, gl, pr, c, k2, k3, k4⟩ := pp.resolve_left (fun z => h11 z.2.1)
  obtain ⟨y1, y2, y3⟩ := k4 h11
  exact ⟨k0, y1, y3, sz, gl, pr, c, k2, k3, p5, y2, ck_M k3 p5 (p2 _).1, en_M k3 p5, (fs_M k3 p5).1, (fs_M k3 p5).2⟩
theorem hp_step (hj : j < 512) (a1 : Int32) : cPr j (fun x => x = 0 ∨ x = 2 ∨ x = 1) (fun σ k => f_X11_step k 0 (lI lZ 1 a1) σ) (fun τ k => x_step k 0 (upd (fun _ => 0) 1 a1) τ) (fun _ _ => True) := by
  intro σ τ h
  have h0 := h
  obtain ⟨XE, ic, rf, tr, e10, e11, e13⟩ := h
  show Tm (fun k => f_X11_step k 0 (lI lZ 1 a1) σ) _
  have thr : ∀ x : Nat, (x = 2 ∨ x = 1) → (fun r : RS => (r.1.1 = 0 ∨ r.1.1 = 2 ∨ r.1.1 = 1) ∧ r.2.2.1 + PhC r.2.1 ≤ PhC σ + 2 ∧ r.2.2.2 + PhS r.2.1 ≤ PhS σ + 12 ∧ Tm (fun k => x_step k 0 (upd (fun _ => 0) 1 a1) τ) (fun q => IB (j + 1) r.2.1 q.2 ∧ True)) ((x, 0), σ, (1, 6)) := fun x hx => ⟨Or.inr hx, by show 1 + PhC σ ≤ _; omega, by show 6 + PhS σ ≤ _; omega, IB_k2 (gM := fun k => x_step k 0 (upd (fun _ => 0) 1 a1) τ) h0 hj (fun XE rf => rj_step hj rf)⟩
  refine Tm_suc (fun k => by rw [f_X11_step]) ?_
  refine Tm_wr (fun _ => thr 2 (Or.inl rfl)) (fun c => ?_)
  have no : ∀ L' : LV, Tm (fun k => f_X11_step k 1 L' σ) (fun r : RS => (r.1.1 = 0 ∨ r.1.1 = 2 ∨ r.1.1 = 1) ∧ r.2.2.1 + PhC r.2.1 ≤ PhC σ + 2 ∧ r.2.2.2 + PhS r.2.1 ≤ PhS σ + 12 ∧ Tm (fun k => x_step k 0 (upd (fun _ => 0) 1 a1) τ) (fun q => IB (j + 1) r.2.1 q.2 ∧ True)) := fun L' => Tm_suc (fun k => by rw [f_X11_step]) (Tm_some (thr 1 (Or.inr rfl)))
  refine Tm_ite (fun _ => no _) (fun c1 => Tm_ite (fun c2 => ?_) (fun _ => no _))
  obtain ⟨k0, y1, y2, sz, gl, pr, cc, z1, z2, z3, z4, z5, z6, z7, z8⟩ := IC_r ic c
  obtain ⟨m, e1, e2⟩ := n_ofnn (show ¬ a1 < 0 from c1)
  have hm : m ≤ 20000 := by
    have c2' : a1 ≤ nI 20000 := c2
    rw [e1] at c2'
    exact (n_le e2 (by decide)).mp c2'
  have ua : uN a1 = m := by rw [e1, u_n (by omega)]
  refine Tm_suc (fun k => by rw [f_X11_step]) ?_
  refine Tm_oxc (c_advance2 (L := lI lZ 1 a1) z4 z5 z7 (by omega) (show uN (σ.1 1903) + uN a1 ≤ 10240000 by omega)) (fun r z => by rw [z.1.1]) (fun r z => Tm_some ?_)
  obtain ⟨⟨w1, w2, w3, w4⟩, w5⟩ := z
  have w5' : uN (r.2.1.1 1903) ≤ uN (σ.1 1903) + uN a1 := w5
  have fr := HfM_m w3
  have hp : sPr r.2.1 = some (sCur σ) := by
    show r.2.1.2.2.2.2.2.1.2.2.1 = _
    rw [w3.2.2.2.2]
    exact y1
  have hic : IC XE (j + 1) r.2.1 := IC_run ic hj k0 fr hp ⟨sz, gl, pr, cc, z1, z2, z3, w4, by omega⟩
  have v1 : r.2.2.1 + PhC r.2.1 ≤ PhC σ := w2.1
  have v2 : r.2.2.2 + PhS r.2.1 ≤ PhS σ := w2.2
  refine ⟨Or.inl rfl, by show r.2.2.1 + 0 + PhC r.2.1 ≤ _; omega, by show r.2.2.2 + 0 + PhS r.2.1 ≤ _; omega, ?_⟩
  refine Tm_mono (rj_step hj rf) (fun q w => ⟨?_, trivial⟩)
  exact IB_run hic w.1 fr tr e10 e13 (Or.inl w.2) (by rw [w3.1 7511 (by decide), w.2.2.2.2]; exact e11)
theorem hp_back (hj : j < 512) (a1 : Int32) : cPr j (fun x => x = 0 ∨ x = 2 ∨ x = 1) (fun σ k => f_X11_back k 0 (lI lZ 1 a1) σ) (fun τ k => x_back k 0 (upd (fun _ => 0) 1 a1) τ) (fun _ _ => True) := by
  intro σ τ h
  have h0 := h
  obtain ⟨XE, ic, rf, tr, e10, e11, e13⟩ := h
  show Tm (fun k => f_X11_back k 0 (lI lZ 1 a1) σ) _
  have thr : ∀ x : Nat, (x = 2 ∨ x = 1) → (fun r : RS => (r.1.1 = 0 ∨ r.1.1 = 2 ∨ r.1.1 = 1) ∧ r.2.2.1 + PhC r.2.1 ≤ PhC σ + 2 ∧ r.2.2.2 + PhS r.2.1 ≤ PhS σ + 12 ∧ Tm (fun k => x_back k 0 (upd (fun _ => 0) 1 a1) τ) (fun q => IB (j + 1) r.2.1 q.2 ∧ True)) ((x, 0), σ, (1, 6)) := fun x hx => ⟨Or.inr hx, by show 1 + PhC σ ≤ _; omega, by show 6 + PhS σ ≤ _; omega, IB_k2 (gM := fun k => x_back k 0 (upd (fun _ => 0) 1 a1) τ) h0 hj (fun XE rf => rj_back hj rf)⟩
  refine Tm_suc (fun k => by rw [f_X11_back]) ?_
  refine Tm_wr (fun _ => thr 2 (Or.inl rfl)) (fun c => ?_)
  have no : ∀ L' : LV, Tm (fun k => f_X11_back k 1 L' σ) (fun r : RS => (r.1.1 = 0 ∨ r.1.1 = 2 ∨ r.1.1 = 1) ∧ r.2.2.1 + PhC r.2.1 ≤ PhC σ + 2 ∧ r.2.2.2 + PhS r.2.1 ≤ PhS σ + 12 ∧ Tm (fun k => x_back k 0 (upd (fun _ => 0) 1 a1) τ) (fun q => IB (j + 1) r.2.1 q.2 ∧ True)) := fun L' => Tm_suc (fun k => by rw [f_X11_back]) (Tm_some (thr 1 (Or.inr rfl)))
  refine Tm_ite (fun _ => no _) (fun c1 => Tm_ite (fun c2 => ?_) (fun _ => no _))
  obtain ⟨k0, y1, y2, sz, gl, pr, cc, z1, z2, z3, z4, z5, z6, z7, z8⟩ := IC_r ic c
  obtain ⟨m, e1, e2⟩ := n_ofnn (show ¬ a1 < 0 from c1)
  have ua : uN a1 = m := by rw [e1, u_n (by omega)]
  have hm : uN a1 ≤ uN (σ.1 1903) := (u_le (by omega) (by omega)).1 (show a1 ≤ σ.1 1903 from c2)
  have us : uN (σ.1 1903 - a1) = uN (σ.1 1903) - uN a1 := u_sub hm
  refine Tm_suc (fun k => by rw [f_X11_back]) ?_
  refine Tm_ite (fun _ => ?_) (fun _ => ?_)
  · refine Tm_suc (fun k => by rw [f_X11_back]) ?_
    refine Tm_some ⟨Or.inl rfl, by show 0 + PhC σ ≤ _; omega, by show 0 + PhS σ ≤ _; omega, ?_⟩
    exact IB_k2 (gM := fun k => x_back k 0 (upd (fun _ => 0) 1 a1) τ) h0 hj (fun XE rf => rj_back hj rf)
  refine Tm_oxc (c_goBack (L := lI lZ 1 (σ.1 1903 - a1)) z4 y1 z6 (show uN (σ.1 1903 - a1) ≤ uN (σ.1 1903) by omega)) (fun r z => z.1) (fun r1 x1 => ?_)
  obtain ⟨u1, u2, u3, u4, u5⟩ := x1
  have u2' : uN r1.1.2 + uN (r1.2.1.1 1903) ≤ uN (σ.1 1903 - a1) := u2
  refine Tm_oxc (c_advance2 (L := lI lZ 1 r1.1.2) u5 z5 z7 (by omega) (show uN (r1.2.1.1 1903) + uN r1.1.2 ≤ 10240000 by omega)) (fun r z => by rw [z.1.1]) (fun r z => ?_)
  obtain ⟨⟨w1, w2, w3, w4⟩, w5⟩ := z
  have w5' : uN (r.2.1.1 1903) ≤ uN (r1.2.1.1 1903) + uN r1.1.2 := w5
  have fr := HfM_t (HfM_m u4) (HfM_m w3)
  have hp : sPr r.2.1 = some (sCur σ) := by
    show r.2.1.2.2.2.2.2.1.2.2.1 = _
    rw [w3.2.2.2.2, u4.2.2.2.2]
    exact y1
  have hic : IC XE (j + 1) r.2.1 := IC_run ic hj k0 fr hp ⟨sz, gl, pr, cc, z1, z2, z3, w4, by omega⟩
  have v1 := w2.1
  have v2 := w2.2
  have v3 : r1.2.2.1 + PhC r1.2.1 ≤ PhC σ := u3.1
  have v4 : r1.2.2.2 + PhS r1.2.1 ≤ PhS σ := u3.2
  refine Tm_suc (fun k => by rw [f_X11_back]) ?_
  refine Tm_some ⟨Or.inl rfl, by show r1.2.2.1 + (r.2.2.1 + 0) + PhC r.2.1 ≤ _; omega, by show r1.2.2.2 + (r.2.2.2 + 0) + PhS r.2.1 ≤ _; omega, ?_⟩
  refine Tm_mono (rj_back hj rf) (fun q w => ⟨?_, trivial⟩)
  exact IB_run hic w.1 fr tr e10 e13 (Or.inl w.2) (by show r.2.1.1 7511 = 0 ↔ _; rw [w3.1 7511 (by decide), u4.1 7511 (by decide), w.2.2.2.2]; exact e11)
end DZA
