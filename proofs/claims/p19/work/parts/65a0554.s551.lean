section JnS551
/-! The house: start, step, back. -/
section DYZ
variable {σ s : CS} {ρ τ ω : MS} {b : Bool} {sz j n n2 V : Nat} {XE : XEt} {L : LV} {c : Ct} {gl : List Gn} {pr : Nat → Nat}
theorem ka_3 {m : Nat} (k : Nat) (L : LV) (σ : CS) (h : KG m σ) : Gf m (f_X3_advance k 3 L σ) := by
  cases k with
  | zero => exact Gf_no
  | succ k => exact Gf_eq (by rw [f_X3_advance]) (Gf_so h)
theorem ka_4 {m : Nat} (k : Nat) (L : LV) (σ : CS) (h : KG m σ) : Gf m (f_X3_advance k 4 L σ) := by
  cases k with
  | zero => exact Gf_no
  | succ k =>
    refine Gf_eq (by rw [f_X3_advance]) ?_
    exact Gf_oP (fun _ => Gf_ite (ka_3 _ _ _ (KG_I (by decide) (KG_I (by decide) (KG_I (by decide) h)))) Gf_no)
theorem ka_2 {m : Nat} (k : Nat) (L : LV) (σ : CS) (h : KG m (uI σ 1814 (L.1 1))) : Gf m (f_X3_advance k 2 L σ) := by
  cases k with
  | zero => exact Gf_no
  | succ k =>
    refine Gf_eq (by rw [f_X3_advance]) ?_
    exact Gf_op (kg_y_X9_expect _ _ _ _ h) (fun _ h1 => Gf_ox (kg_f_X3_execute _ _ _ _ h1) (fun _ h2 => Gf_ite (ka_3 _ _ _ h2) (Gf_op (kg_y_J7_fill_53178__a23 _ _ _ _ h2) (fun _ h3 => ka_4 _ _ _ (KG_I (by decide) h3)))))
/-- no more statements than were asked for -/
theorem ka_0 {m : Nat} (h : uN (σ.1 1903) + uN (L.1 1) ≤ m) (hm : m < 4294967296) : ∀ (k : Nat) (r : RS), f_X3_advance k 0 L σ = some r → uN (r.2.1.1 1903) ≤ m := by
  intro k r e
  cases k with
  | zero => cases e
  | succ k =>
    have b1 : ∀ k', f_X3_advance k' 1 L σ = some r → uN (r.2.1.1 1903) ≤ m := fun k' e' => by
      cases k' with
      | zero => cases e'
      | succ k' =>
        rw [f_X3_advance] at e'
        obtain rfl := Option.some.inj e'
        show uN (σ.1 1903) ≤ m
        omega
    rw [f_X3_advance] at e
    cases hp : sPr σ with
    | none => rw [hp] at e; exact b1 k e
    | some b =>
      rw [hp] at e
      by_cases h7 : σ.1 1907 = 0
      · have e' : (if σ.1 1907 = 0 then f_X3_advance k 2 L σ else f_X3_advance k 1 L σ) = some r := e
        rw [if_pos h7] at e'
        have z := ka_2 (m := m) k L σ ⟨by rw [uI_o (by decide), uI_s]; exact h, hm⟩ r e'
        have z1 := z.1
        omega
      · have e' : (if σ.1 1907 = 0 then f_X3_advance k 2 L σ else f_X3_advance k 1 L σ) = some r := e
        rw [if_neg h7] at e'
        exact b1 k e'
theorem c_advance2 (ms : Mst c σ) (ck : CkA c) (k0 : tcS c 0) (f0' : tcF c 0 ≤ 1000) (hn : uN (σ.1 1903) + uN (L.1 1) ≤ 10240000) : Tm (fun k => f_X3_advance k 0 L σ) (fun q => (q.1 = (0, 0) ∧ CoP σ q ∧ MFr σ q.2.1 ∧ Mst c q.2.1) ∧ uN (q.2.1.1 1903) ≤ uN (σ.1 1903) + uN (L.1 1)) := Tm_pt (c_advance ms ck k0 f0' hn) (fun k r e => ka_0 (Nat.le_refl _) (by omega) k r e)
/-- what the machine leaves of the house -/
def HfM (σ s : CS) : Prop := (∀ i, 3700 ≤ i → ¬ (i = 7511 ∨ i = 7519) → s.1 i = σ.1 i) ∧ (∀ k, k = 38 ∨ (41 ≤ k ∧ k ≤ 66) ∨ (69 ≤ k ∧ k ≤ 74) → s.2.2.1 k = σ.2.2.1 k ∧ sN s k = sN σ k) ∧ s.2.2.2.1 = σ.2.2.2.1 ∧ (sCur s = sCur σ ∧ sOt s = sOt σ ∧ sKd s = sKd σ)
theorem HfM_t {s2 : CS} (a : HfM σ s) (d : HfM s s2) : HfM σ s2 := ⟨fun i h1 h2 => (d.1 i h1 h2).trans (a.1 i h1 h2), fun k hk => ⟨(d.2.1 k hk).1.trans (a.2.1 k hk).1, (d.2.1 k hk).2.trans (a.2.1 k hk).2⟩, d.2.2.1.trans a.2.2.1, ⟨d.2.2.2.1.trans a.2.2.2.1, d.2.2.2.2.1.trans a.2.2.2.2.1, d.2.2.2.2.2.trans a.2.2.2.2.2⟩⟩
theorem HfM_m (h : MFr σ s) : HfM σ s := by
  obtain ⟨h1, h2, h3, h4, h5⟩ := h
  have e5 : s.2.2.2.2.2.1 = σ.2.2.2.2.2.1 := h5
  refine ⟨fun i a b => h1 i (by omega), fun k hk => h3 k (fun z => by unfold rwM at z; omega), h4, ⟨?_, ?_, ?_⟩⟩
  · show s.2.2.2.2.2.1.1 = _; rw [e5]
  · show s.2.2.2.2.2.1.2.1 = _; rw [e5]
  · show s.2.2.2.2.2.1.2.2.2.2 = _; rw [e5]
theorem HfM_cM (h : HfM σ s) : cM c b s = cM c b σ := by
  have p13 := pR_13 b
  have p0 := pR0_c (sKd σ b)
  have kd := h.2.2.2.2.2
  unfold cM
  show (s.2.2.1 (pR0 (sKd s b)), sN s (pR0 (sKd s b)), (fun u => uN (s.2.2.1 (pR13 b) u)), (fun u => uN (s.2.2.1 (pR14 b) u)), (fun u => uN (s.2.2.1 (pR18 b) u)), tcK c, tcD c) = _
  rw [kd, (h.2.1 (pR0 (sKd σ b)) (by omega)).1, (h.2.1 (pR0 (sKd σ b)) (by omega)).2, (h.2.1 (pR13 b) (by omega)).1, (h.2.1 (pR14 b) (by omega)).1, (h.2.1 (pR18 b) (by omega)).1]
theorem HfM_CdL (h : HfM σ s) (cd : CdL b sz σ) : CdL b sz s := by
  have p0 := pR0_c (sKd σ b)
  have kd := h.2.2.2.2.2
  have fc := fP_c b 1
  have en : cdn b s = cdn b σ := by
    show sN s (pR0 (sKd s b)) = sN σ (pR0 (sKd σ b))
    rw [kd, (h.2.1 (pR0 (sKd σ b)) (by omega)).2]
  exact ⟨(h.1 _ (by omega) (by omega)).trans cd.1, by rw [en]; exact cd.2.1, by rw [en, (h.2.1 43 (by omega)).2, (h.2.1 51 (by omega)).2]; exact cd.2.2⟩
theorem HfM_pg (h : HfM σ s) (p : PgI gl pr b sz V c σ) : PgI gl pr b sz V c s := by
  have p13 := pR_13 b
  have p0 := pR0_c (sKd σ b)
  have kd := h.2.2.2.2.2
  have fc := fP_c b 2
  have fc11 := fP_c b 11
  obtain ⟨E, nu, vg, e0, MD, e, ⟨tb, de⟩, ⟨ut, r18⟩, pg, ⟨eN, cd⟩, ⟨en1, en2, en3⟩, vw⟩ := p
  have rr : ∀ k, 41 ≤ k ∧ k ≤ 66 ∨ 69 ≤ k ∧ k ≤ 74 → s.2.2.1 k = σ.2.2.1 k := fun k hk => (h.2.1 k (by omega)).1
  refine ⟨E, nu, vg, e0, MD, e, ⟨TbR_s tb (h.1 _ (by omega) (by omega)) (by rw [h.2.2.1]) (by rw [h.2.2.1]) (rr _ (by omega)) (rr _ (by omega)) (rr _ (by omega)) (rr _ (by omega)), de⟩, ⟨fun i hi => ?_, by rw [rr _ (by omega)]; exact r18⟩, pg, ⟨eN, fun i hi => ?_⟩, ⟨(h.1 _ (by omega) (by omega)).trans en1, en2, en3⟩, fun i hi => by rw [rr 64 (by omega)]; exact vw i hi⟩
  · rw [rr (pR13 b) (by omega), rr (pR14 b) (by omega), rr (pR18 b) (by omega), rr (pR15 b) (by omega)]
    exact ut i hi
  · rw [← cd i hi]
    show s.2.2.1 (pR0 (sKd s b)) i = σ.2.2.1 (pR0 (sKd σ b)) i
    rw [kd, rr _ (by omega)]
/-- a run stands behind it -/
theorem IC_run (h : IC XE j σ) (hj : j < 512) (h10 : ¬ σ.1 7510 = 0) (fr : HfM σ s) (hp : sPr s = some (sCur σ)) (hm : ∃ (sz : Nat) (gl : List Gn) (pr : Nat → Nat) (c : Ct), XE = some (gl, pr) ∧ PgI gl pr (sCur σ) sz (uN (σ.1 7513)) c σ ∧ CdL (sCur σ) sz σ ∧ Mst (cM c (sCur σ) σ) s ∧ uN (s.1 1903) ≤ 20000 * (j + 1)) : IC XE (j + 1) s := by
  obtain ⟨n, sz, ⟨t1, t2, t3, t4⟩, ⟨p1, p2, p3, p4, p5, p6⟩, ⟨q1, q2, q3⟩, ⟨m1, m2⟩, pp⟩ := h
  obtain ⟨sz', gl, pr, c, k2, k3, y3, ms, bg⟩ := hm
  have k0 := h10
  obtain rfl : sz' = sz := by
    have w := u_eq.1 (y3.1.symm.trans p5.1)
    have l1 := cdn_le y3
    have l2 := y3.2.1
    have l3 := p5.2.1
    rw [u_n (by omega), u_n (by omega)] at w
    exact w
  have ff := fr.1
  have sc := fr.2.2.2.1
  refine ⟨n, sz', ⟨?_, (ff 3701 (by decide) (by decide)).trans t2, by omega, by rw [fr.2.2.1]; exact t4⟩, ⟨by rw [sc, fr.2.2.2.2.1]; exact p1, fun d => ?_, by rw [(fr.2.1 41 (by omega)).2]; exact p3, by rw [(fr.2.1 42 (by omega)).2]; exact p4, by rw [sc]; exact HfM_CdL fr p5, by omega⟩, ⟨by rw [ff 7517 (by decide) (by decide), (fr.2.1 66 (by omega)).2]; exact q1, by rw [ff 7518 (by decide) (by decide)]; exact q2, by rw [ff 7513 (by decide) (by decide)]; exact q3⟩, ⟨Hmx_of ms, ms.1⟩, ?_⟩
  · unfold tOK at t1 ⊢
    rw [ff 3701 (by decide) (by decide), (fr.2.1 38 (by omega)).1, (fr.2.1 38 (by omega)).2]
    exact t1
  · have p13 := pR_13 d
    exact ⟨by rw [(fr.2.1 _ (by omega)).1]; exact (p2 d).1, by rw [(fr.2.1 _ (by omega)).1]; exact (p2 d).2⟩
  · rw [ff 7510 (by decide) (by decide), ff 7513 (by decide) (by decide), sc]
    exact Or.inr ⟨k0, gl, pr, c, k2, HfM_pg fr k3, fun _ => ⟨hp, by rw [HfM_cM fr]; exact ms, bg⟩⟩
end DYZ
end JnS551
section JnS552
/-! The house: start, step, back, on both sides. -/
section DZA
variable {σ s : CS} {ρ τ ω : MS} {b : Bool} {sz j n n2 V : Nat} {XE : XEt} {L : LV} {c : Ct} {gl : List Gn} {pr : Nat → Nat}
theorem HfM_7 {x : Int32} : HfM σ (uI σ 7511 x) := ⟨fun i _ h2 => uI_o (by omega), fun _ _ => ⟨rfl, rfl⟩, rfl, ⟨rfl, rfl, rfl⟩⟩
theorem PFm_7 {x : Int32} {i : Nat} (hi : 3700 ≤ i) : PFm σ (uI σ i x) := ⟨⟨fun j hj _ => uI_o (by omega), fun _ _ => rfl⟩, fun _ _ => ⟨rfl, rfl⟩, rfl⟩
theorem HfM_rel (fr : HfM σ s) (h : tRel σ τ) : tRel s τ := tRel_s h (fr.1 3701 (by decide) (by decide)) (fr.2.1 38 (by omega)).1
/-- the machine opens the program that stands -/
theorem c_st {x : Int64} (h : IC XE j σ) (h10 : ¬ σ.1 7510 = 0) : Tm (fun k => f_X11_start k 1 (lJ lZ 1 x) σ) (fun r => r.1 = (0, 0) ∧ CoP σ r ∧ HfM σ r.2.1 ∧ r.2.1.1 7511 = 1 ∧ sPr r.2.1 = some (sCur σ) ∧ uN (r.2.1.1 1903) = 0 ∧ ∃ (sz : Nat) (gl : List Gn) (pr : Nat → Nat) (c : Ct), XE = some (gl, pr) ∧ PgI gl pr (sCur σ) sz (uN (σ.1 7513)) c σ ∧ CdL (sCur σ) sz σ ∧ Mst (cM c (sCur σ) σ) r.2.1) := by
  obtain ⟨n, sz, ⟨t1, t2, t3, t4⟩, ⟨p1, p2, p3, p4, p5, p6⟩, ⟨q1, q2, q3⟩, ⟨m1, m2⟩, pp⟩ := h
  obtain ⟨k0, gl, pr, c, k2, k3, k4⟩ := pp.resolve_left (fun z => h10 z.1)
  have ck := ck_M k3 p5 (p2 _).1
  have en := en_M k3 p5
  have fs := fs_M k3 p5
  have f7 : PFm σ (uI σ 7511 1) := PFm_7 (by decide)
  obtain ⟨g, l, t, K4, hb⟩ := Hmx_m f7 m1
  have fc := fP_c (sCur σ) 2
  have e2 : (uI σ 7511 1).1 (fP (sCur σ) 2) = σ.1 (fP (sCur σ) 2) := uI_o (by omega)
  have en' : EnP (cM c (sCur σ) σ) (uI σ 7511 1) (sCur σ) := by
    unfold EnP at en ⊢
    rw [e2]
    exact en
  have ct : CtL (cM c (sCur σ) σ) (uPr (uI σ 7511 1) (some (sCur σ))) := ⟨sCur σ, rfl, rfl, rfl, fun u _ => ⟨rfl, rfl, rfl⟩⟩
  refine Tm_suc (fun k => by rw [f_X11_start]) ?_
  refine Tm_oxc (c_open (b := sCur σ) (L := lJ (lB lZ 1 (sCur (uI σ 7511 1))) 2 ((lJ lZ 1 x).2.1 1)) hb (BY_m f7 m2) rfl ct en') (fun r z => by rw [z.1]) (fun r1 z1 => ?_)
  obtain ⟨a1, a2, a3, a4, a5⟩ := z1
  have u0 : uN (r1.2.1.1 1903) = 0 := by rw [a2]; rfl
  refine Tm_oxc (c_advance2 (L := lI lZ 1 0) a5 ck fs.1 (by have := fs.2; omega) (by rw [u0]; show 0 + 0 ≤ _; omega)) (fun r z => by rw [z.1.1]) (fun r2 z2 => Tm_some ?_)
  obtain ⟨⟨b1, b2, b3, b4⟩, b5⟩ := z2
  rw [u0] at b5
  have b5' : uN (r2.2.1.1 1903) ≤ 0 + 0 := b5
  have ph := Ph_s (σ := σ) (σ' := uI σ 7511 1) rfl
  have h1 : HfM σ (uL (uPr (uI σ 7511 1) (some (sCur σ))) 1817 x) := ⟨fun i _ h2 => uI_o (by omega), fun _ _ => ⟨rfl, rfl⟩, rfl, ⟨rfl, rfl, rfl⟩⟩
  have h2 := HfM_t (HfM_t h1 (HfM_m a4)) (HfM_m b3)
  refine ⟨rfl, ⟨?_, ?_⟩, h2, ?_, ?_, by show uN (r2.2.1.1 1903) = 0; omega, sz, gl, pr, c, k2, k3, p5, b4⟩
  · have w1 := a3.1
    have w2 := b2.1
    show r1.2.2.1 + (r2.2.2.1 + 0) + PhC r2.2.1 ≤ PhC σ
    omega
  · have w1 := a3.2
    have w2 := b2.2
    show r1.2.2.2 + (r2.2.2.2 + 0) + PhS r2.2.1 ≤ PhS σ
    omega
  · show r2.2.1.1 7511 = 1
    rw [b3.1 7511 (by decide), a4.1 7511 (by decide)]
    exact (uI_s : (uI σ 7511 1).1 7511 = 1)
  · show r2.2.1.2.2.2.2.2.1.2.2.1 = _
    rw [b3.2.2.2.2, a4.2.2.2.2]
    rfl
/-- one step of both: a run stands behind -/
theorem IB_run (hic : IC XE (j + 1) s) (rf : RfJ XE (j + 1) ω) (fr : HfM σ s) (tr : tRel σ τ) (e10 : σ.1 7510 = 0 ↔ τ.1 111 = 0) (e13 : σ.1 7513 = τ.1 73) (k : KpT τ ω ∨ (ω.1 4 = τ.1 4 ∧ ω.2.2 3 = τ.2.2 3) ∧ ω.1 73 = τ.1 73 ∧ ω.1 111 = τ.1 111) (e11 : s.1 7511 = 0 ↔ ω.1 112 = 0) : IB (j + 1) s ω := by
  have tr2 := HfM_rel fr tr
  have e1 : s.1 7510 = σ.1 7510 := fr.1 7510 (by decide) (by decide)
  have e3 : s.1 7513 = σ.1 7513 := fr.1 7513 (by decide) (by decide)
  rcases k with k | ⟨⟨k1, k2⟩, k3, k4⟩
  · exact ⟨XE, hic, rf, KpT_rel tr2 k, by rw [e1, k.2.2.1]; exact e10, e11, by rw [e3, k.2.1]; exact e13⟩
  · refine ⟨XE, hic, rf, ?_, by rw [e1, k4]; exact e10, e11, by rw [e3, k3]; exact e13⟩
    unfold tRel at tr2 ⊢
    rw [k1, k2]
    exact tr2
theorem hp_start (hj : j < 512) (a1 a2 : Int32) : cPr j (fun x => x = 0 ∨ x = 2) (fun σ k => f_X11_start k 0 (lJ lZ 1 ((((((a1.toInt64)) <<< ((32 : Int32).toInt64 &&& 63))) ||| ((((a2.toInt64)) &&& 4294967295))))) σ) (fun τ k => x_start k 0 (fun _ => 0) (updW (fun _ => 0) 1 ((((((a1.toInt64)) <<< ((32 : Int32).toInt64 &&& 63))) ||| ((((a2.toInt64)) &&& 4294967295))))) τ) (fun r q => q.2.1 2 = wv 2 1 1 r.1.1) := by
  generalize (((((a1.toInt64)) <<< ((32 : Int32).toInt64 &&& 63))) ||| ((((a2.toInt64)) &&& 4294967295))) = x
  intro σ τ h
  obtain ⟨XE, ic, rf, tr, e10, e11, e13⟩ := h
  show Tm (fun k => f_X11_start k 0 (lJ lZ 1 x) σ) _
  refine Tm_suc (fun k => by rw [f_X11_start]) ?_
  refine Tm_ite (fun c => ?_) (fun c => ?_)
  · refine Tm_some ⟨Or.inr rfl, by show 1 + PhC σ ≤ _; omega, by show 6 + PhS σ ≤ _; omega, ?_⟩
    refine Tm_mono (rj_start rf) (fun q w => ?_)
    obtain ⟨w1, w2, w3, w4, w5, w6⟩ := w
    have c2 := e10.1 c
    rw [if_pos c2] at w2
    have n11 : σ.1 7511 = 0 := by
      obtain ⟨n, sz, _, _, _, _, pp⟩ := ic
      exact pp.elim (fun z => z.2.1) (fun z => absurd c z.1)
    refine ⟨IB_run (σ := σ) (IC_s ic hj) w1 ⟨fun _ _ _ => rfl, fun _ _ => ⟨rfl, rfl⟩, rfl, ⟨rfl, rfl, rfl⟩⟩ tr e10 e13 (Or.inr ⟨w3, w4, w5⟩) ⟨fun _ => w6.2 c2, fun _ => n11⟩, w2⟩
  · refine Tm_mono (c_st ic c) (fun r z => ?_)
    obtain ⟨z1, z2, z3, z4, z5, z6, sz, gl, pr, cc, y1, y2, y3, y4⟩ := z
    refine ⟨Or.inl (by rw [z1]), by have := z2.1; omega, by have := z2.2; omega, ?_⟩
    refine Tm_mono (rj_start rf) (fun q w => ?_)
    obtain ⟨w1, w2, w3, w4, w5, w6⟩ := w
    have c2 : ¬ τ.1 111 = 0 := fun e => c (e10.2 e)
    rw [if_neg c2] at w2
    have hic : IC XE (j + 1) r.2.1 := IC_run ic hj c z3 z5 ⟨sz, gl, pr, cc, y1, y2, y3, y4, by rw [z6]; exact Nat.zero_le _⟩
    exact ⟨IB_run hic w1 z3 tr e10 e13 (Or.inr ⟨w3, w4, w5⟩) ⟨fun e => absurd (z4.symm.trans e) (by decide), fun e => absurd (w6.1 e) c2⟩, by show q.2.1 2 = wv 2 1 1 r.1.1; rw [z1]; exact w2⟩
/-- a run stands: what is known -/
theorem IC_r (h : IC XE j σ) (h11 : ¬ σ.1 7511 = 0) : ¬ σ.1 7510 = 0 ∧ sPr σ = some (sCur σ) ∧ uN (σ.1 1903) ≤ 20000 * j ∧ ∃ (sz : Nat) (gl : List Gn) (pr : Nat → Nat) (c : Ct), XE = some (gl, pr) ∧ PgI gl pr (sCur σ) sz (uN (σ.1 7513)) c σ ∧ CdL (sCur σ) sz σ ∧ Mst (cM c (sCur σ) σ) σ ∧ CkA (cM c (sCur σ) σ) ∧ EnP (cM c (sCur σ) σ) σ (sCur σ) ∧ tcS (cM c (sCur σ) σ) 0 ∧ tcF (cM c (sCur σ) σ) 0 ≤ 200 := by
  obtain ⟨n, sz, t, ⟨p1, p2, p3, p4, p5, p6⟩, q, m, pp⟩ := h
  obtain ⟨k0, gl, pr, c, k2, k3, k4⟩ := pp.resolve_left (fun z => h11 z.2.1)
  obtain ⟨y1, y2, y3⟩ := k4 h11
  exact ⟨k0, y1, y3, sz, gl, pr, c, k2, k3, p5, y2, ck_M k3 p5 (p2 _).1, en_M k3 p5, (fs_M k3 p5).1, (fs_M k3 p5).2⟩
theorem hp_step (hj : j < 512) (a1 : Int32) : cPr j (fun x => x = 0 ∨ x = 2 ∨ x = 1) (fun σ k => f_X11_step k 0 (lI lZ 1 a1) σ) (fun τ k => x_step k 0 (upd (fun _ => 0) 1 a1) τ) (fun _ _ => True) := by
  intro σ τ h
  have h0 := h
  obtain ⟨XE, ic, rf, tr, e10, e11, e13⟩ := h
  show Tm (fun k => f_X11_step k 0 (lI lZ 1 a1) σ) _
  have thr : ∀ x : Nat, (x = 2 ∨ x = 1) → (fun r : RS => (r.1.1 = 0 ∨ r.1.1 = 2 ∨ r.1.1 = 1) ∧ r.2.2.1 + PhC r.2.1 ≤ PhC σ + 2 ∧ r.2.2.2 + PhS r.2.1 ≤ PhS σ + 12 ∧ Tm (fun k => x_step k 0 (upd (fun _ => 0) 1 a1) τ) (fun q => IB (j + 1) r.2.1 q.2 ∧ True)) ((x, 0), σ, (1, 6)) := fun x hx => ⟨Or.inr hx, by show 1 + PhC σ ≤ _; omega, by show 6 + PhS σ ≤ _; omega, IB_k2 (gM := fun k => x_step k 0 (upd (fun _ => 0) 1 a1) τ) h0 hj (fun XE rf => rj_step hj rf)⟩
  refine Tm_suc (fun k => by rw [f_X11_step]) ?_
  refine Tm_wr (fun _ => thr 2 (Or.inl rfl)) (fun c => ?_)
  have no : ∀ L' : LV, Tm (fun k => f_X11_step k 1 L' σ) (fun r : RS => (r.1.1 = 0 ∨ r.1.1 = 2 ∨ r.1.1 = 1) ∧ r.2.2.1 + PhC r.2.1 ≤ PhC σ + 2 ∧ r.2.2.2 + PhS r.2.1 ≤ PhS σ + 12 ∧ Tm (fun k => x_step k 0 (upd (fun _ => 0) 1 a1) τ) (fun q => IB (j + 1) r.2.1 q.2 ∧ True)) := fun L' => Tm_suc (fun k => by rw [f_X11_step]) (Tm_some (thr 1 (Or.inr rfl)))
  refine Tm_ite (fun _ => no _) (fun c1 => Tm_ite (fun c2 => ?_) (fun _ => no _))
  obtain ⟨k0, y1, y2, sz, gl, pr, cc, z1, z2, z3, z4, z5, z6, z7, z8⟩ := IC_r ic c
  obtain ⟨m, e1, e2⟩ := n_ofnn (show ¬ a1 < 0 from c1)
  have hm : m ≤ 20000 := by
    have c2' : a1 ≤ nI 20000 := c2
    rw [e1] at c2'
    exact (n_le e2 (by decide)).mp c2'
  have ua : uN a1 = m := by rw [e1, u_n (by omega)]
  refine Tm_suc (fun k => by rw [f_X11_step]) ?_
  refine Tm_oxc (c_advance2 (L := lI lZ 1 a1) z4 z5 z7 (by omega) (show uN (σ.1 1903) + uN a1 ≤ 10240000 by omega)) (fun r z => by rw [z.1.1]) (fun r z => Tm_some ?_)
  obtain ⟨⟨w1, w2, w3, w4⟩, w5⟩ := z
  have w5' : uN (r.2.1.1 1903) ≤ uN (σ.1 1903) + uN a1 := w5
  have fr := HfM_m w3
  have hp : sPr r.2.1 = some (sCur σ) := by
    show r.2.1.2.2.2.2.2.1.2.2.1 = _
    rw [w3.2.2.2.2]
    exact y1
  have hic : IC XE (j + 1) r.2.1 := IC_run ic hj k0 fr hp ⟨sz, gl, pr, cc, z1, z2, z3, w4, by omega⟩
  have v1 : r.2.2.1 + PhC r.2.1 ≤ PhC σ := w2.1
  have v2 : r.2.2.2 + PhS r.2.1 ≤ PhS σ := w2.2
  refine ⟨Or.inl rfl, by show r.2.2.1 + 0 + PhC r.2.1 ≤ _; omega, by show r.2.2.2 + 0 + PhS r.2.1 ≤ _; omega, ?_⟩
  refine Tm_mono (rj_step hj rf) (fun q w => ⟨?_, trivial⟩)
  exact IB_run hic w.1 fr tr e10 e13 (Or.inl w.2) (by rw [w3.1 7511 (by decide), w.2.2.2.2]; exact e11)
theorem hp_back (hj : j < 512) (a1 : Int32) : cPr j (fun x => x = 0 ∨ x = 2 ∨ x = 1) (fun σ k => f_X11_back k 0 (lI lZ 1 a1) σ) (fun τ k => x_back k 0 (upd (fun _ => 0) 1 a1) τ) (fun _ _ => True) := by
  intro σ τ h
  have h0 := h
  obtain ⟨XE, ic, rf, tr, e10, e11, e13⟩ := h
  show Tm (fun k => f_X11_back k 0 (lI lZ 1 a1) σ) _
  have thr : ∀ x : Nat, (x = 2 ∨ x = 1) → (fun r : RS => (r.1.1 = 0 ∨ r.1.1 = 2 ∨ r.1.1 = 1) ∧ r.2.2.1 + PhC r.2.1 ≤ PhC σ + 2 ∧ r.2.2.2 + PhS r.2.1 ≤ PhS σ + 12 ∧ Tm (fun k => x_back k 0 (upd (fun _ => 0) 1 a1) τ) (fun q => IB (j + 1) r.2.1 q.2 ∧ True)) ((x, 0), σ, (1, 6)) := fun x hx => ⟨Or.inr hx, by show 1 + PhC σ ≤ _; omega, by show 6 + PhS σ ≤ _; omega, IB_k2 (gM := fun k => x_back k 0 (upd (fun _ => 0) 1 a1) τ) h0 hj (fun XE rf => rj_back hj rf)⟩
  refine Tm_suc (fun k => by rw [f_X11_back]) ?_
  refine Tm_wr (fun _ => thr 2 (Or.inl rfl)) (fun c => ?_)
  have no : ∀ L' : LV, Tm (fun k => f_X11_back k 1 L' σ) (fun r : RS => (r.1.1 = 0 ∨ r.1.1 = 2 ∨ r.1.1 = 1) ∧ r.2.2.1 + PhC r.2.1 ≤ PhC σ + 2 ∧ r.2.2.2 + PhS r.2.1 ≤ PhS σ + 12 ∧ Tm (fun k => x_back k 0 (upd (fun _ => 0) 1 a1) τ) (fun q => IB (j + 1) r.2.1 q.2 ∧ True)) := fun L' => Tm_suc (fun k => by rw [f_X11_back]) (Tm_some (thr 1 (Or.inr rfl)))
  refine Tm_ite (fun _ => no _) (fun c1 => Tm_ite (fun c2 => ?_) (fun _ => no _))
  obtain ⟨k0, y1, y2, sz, gl, pr, cc, z1, z2, z3, z4, z5, z6, z7, z8⟩ := IC_r ic c
  obtain ⟨m, e1, e2⟩ := n_ofnn (show ¬ a1 < 0 from c1)
  have ua : uN a1 = m := by rw [e1, u_n (by omega)]
  have hm : uN a1 ≤ uN (σ.1 1903) := (u_le (by omega) (by omega)).1 (show a1 ≤ σ.1 1903 from c2)
  have us : uN (σ.1 1903 - a1) = uN (σ.1 1903) - uN a1 := u_sub hm
  refine Tm_suc (fun k => by rw [f_X11_back]) ?_
  refine Tm_ite (fun _ => ?_) (fun _ => ?_)
  · refine Tm_suc (fun k => by rw [f_X11_back]) ?_
    refine Tm_some ⟨Or.inl rfl, by show 0 + PhC σ ≤ _; omega, by show 0 + PhS σ ≤ _; omega, ?_⟩
    exact IB_k2 (gM := fun k => x_back k 0 (upd (fun _ => 0) 1 a1) τ) h0 hj (fun XE rf => rj_back hj rf)
  refine Tm_oxc (c_goBack (L := lI lZ 1 (σ.1 1903 - a1)) z4 y1 z6 (show uN (σ.1 1903 - a1) ≤ uN (σ.1 1903) by omega)) (fun r z => z.1) (fun r1 x1 => ?_)
  obtain ⟨u1, u2, u3, u4, u5⟩ := x1
  have u2' : uN r1.1.2 + uN (r1.2.1.1 1903) ≤ uN (σ.1 1903 - a1) := u2
  refine Tm_oxc (c_advance2 (L := lI lZ 1 r1.1.2) u5 z5 z7 (by omega) (show uN (r1.2.1.1 1903) + uN r1.1.2 ≤ 10240000 by omega)) (fun r z => by rw [z.1.1]) (fun r z => ?_)
  obtain ⟨⟨w1, w2, w3, w4⟩, w5⟩ := z
  have w5' : uN (r.2.1.1 1903) ≤ uN (r1.2.1.1 1903) + uN r1.1.2 := w5
  have fr := HfM_t (HfM_m u4) (HfM_m w3)
  have hp : sPr r.2.1 = some (sCur σ) := by
    show r.2.1.2.2.2.2.2.1.2.2.1 = _
    rw [w3.2.2.2.2, u4.2.2.2.2]
    exact y1
  have hic : IC XE (j + 1) r.2.1 := IC_run ic hj k0 fr hp ⟨sz, gl, pr, cc, z1, z2, z3, w4, by omega⟩
  have v1 := w2.1
  have v2 := w2.2
  have v3 : r1.2.2.1 + PhC r1.2.1 ≤ PhC σ := u3.1
  have v4 : r1.2.2.2 + PhS r1.2.1 ≤ PhS σ := u3.2
  refine Tm_suc (fun k => by rw [f_X11_back]) ?_
  refine Tm_some ⟨Or.inl rfl, by show r1.2.2.1 + (r.2.2.1 + 0) + PhC r.2.1 ≤ _; omega, by show r1.2.2.2 + (r.2.2.2 + 0) + PhS r.2.1 ≤ _; omega, ?_⟩
  refine Tm_mono (rj_back hj rf) (fun q w => ⟨?_, trivial⟩)
  exact IB_run hic w.1 fr tr e10 e13 (Or.inl w.2) (by show r.2.1.1 7511 = 0 ↔ _; rw [w3.1 7511 (by decide), u4.1 7511 (by decide), w.2.2.2.2]; exact e11)
end DZA
end JnS552
section JnS553
/-! The house: a value is shown. -/
section DZB
variable {σ s : CS} {ρ τ ω : MS} {b : Bool} {sz j n n2 V : Nat} {XE : XEt} {L : LV} {c : Ct} {gl : List Gn} {pr : Nat → Nat} {g : Nat → Prop} {l : List Nat} {t : Nat} {h : Int32}
/-- what showing leaves -/
def SwF (σ s : CS) : Prop := ((∀ i, ¬ (i = 404 ∨ i = 1203 ∨ i = 7517 ∨ i = 7518) → s.1 i = σ.1 i) ∧ s.2.1 = σ.2.1) ∧ ((∀ k, ¬ ((5 ≤ k ∧ k ≤ 11) ∨ k = 13 ∨ k = 66 ∨ k = 67) → s.2.2.1 k = σ.2.2.1 k) ∧ (∀ k, ¬ k = 66 → sN s k = sN σ k) ∧ s.2.2.2.1 = σ.2.2.2.1) ∧ s.2.2.2.2.2 = σ.2.2.2.2.2
theorem Ph_66 (e : ∀ k, ¬ k = 66 → sN s k = sN σ k) : PhC s + pC σ 66 10400 = PhC σ + pC s 66 10400 ∧ PhS s + pS σ 66 10400 = PhS σ + pS s 66 10400 := by
  unfold PhC PhS cdC cdS
  have c : ∀ k m, ¬ k = 66 → pC s k m = pC σ k m ∧ pS s k m = pS σ k m := fun k m hk => by
    unfold pC pS
    rw [e k hk]
    exact ⟨rfl, rfl⟩
  rw [(c 3 160000 (by decide)).1, (c 1 5000 (by decide)).1, (c 2 5000 (by decide)).1, (c 20 91000 (by decide)).1, (c 21 44200 (by decide)).1, (c 22 60000 (by decide)).1, (c 26 20000 (by decide)).1, (c 41 21504 (by decide)).1, (c 42 16384 (by decide)).1, (c 43 36864 (by decide)).1, (c 51 36864 (by decide)).1]
  rw [(c 3 160000 (by decide)).2, (c 1 5000 (by decide)).2, (c 2 5000 (by decide)).2, (c 20 91000 (by decide)).2, (c 21 44200 (by decide)).2, (c 22 60000 (by decide)).2, (c 26 20000 (by decide)).2, (c 41 21504 (by decide)).2, (c 42 16384 (by decide)).2, (c 43 36864 (by decide)).2, (c 51 36864 (by decide)).2]
  rw [e 38 (by decide)]
  constructor <;> omega
theorem c_show (hq : HQ g l t σ) (hv : ∀ i, i < 27 → Gv g (σ.2.2.1 67 i)) (hb : BY False σ) (h8 : uN (σ.1 7518) ≤ 2) (hh : Gv g (L.1 1)) : Tm (fun k => f_X11_showValue k 0 L σ) (fun r => r.1.1 = 0 ∧ CoP σ r ∧ SwF σ r.2.1 ∧ (∀ i, i < 27 → Gv g (r.2.1.2.2.1 67 i)) ∧ BY False r.2.1 ∧ uN (r.2.1.1 7517) ≤ sN r.2.1 66 ∧ uN (r.2.1.1 7518) ≤ 2) := by
  have by2 : ∀ k, Bf False (f_X11_showValue k 0 L σ) := fun k => kb_f_X11_showValue k 0 L σ hb
  have main : Tm (fun k => f_X11_showValue k 0 L σ) (fun r => r.1.1 = 0 ∧ CoP σ r ∧ SwF σ r.2.1 ∧ (∀ i, i < 27 → Gv g (r.2.1.2.2.1 67 i)) ∧ uN (r.2.1.1 7517) ≤ sN r.2.1 66 ∧ uN (r.2.1.1 7518) ≤ 2) := by
    refine Tm_suc (fun k => by rw [f_X11_showValue]) ?_
    refine Tm_chk (by decide) (Tm_chk (by decide) (Tm_chk (by decide) ?_))
    show Tm (fun k => f_X11_showValue k 1 (lI L 100 (if (2 : Int32) < σ.1 7518 + 1 then (2 : Int32) else σ.1 7518 + 1)) (uA (uA σ 67 1 (σ.2.2.1 67 0)) 67 0 (L.1 1))) _
    have m8 : uN (if (2 : Int32) < σ.1 7518 + 1 then (2 : Int32) else σ.1 7518 + 1) ≤ 2 := by
      by_cases z : (2 : Int32) < σ.1 7518 + 1
      · rw [if_pos z]; decide
      · rw [if_neg z]
        have u1 : uN (σ.1 7518 + 1) = uN (σ.1 7518) + 1 := u_inc (by omega)
        have z2 : ¬ uN (2 : Int32) < uN (σ.1 7518 + 1) := fun y => z ((u_ltn (by decide) (by omega)).2 y)
        have e2 : uN (2 : Int32) = 2 := rfl
        omega
    generalize (if (2 : Int32) < σ.1 7518 + 1 then (2 : Int32) else σ.1 7518 + 1) = x8 at m8
    generalize hs1 : uA (uA σ 67 1 (σ.2.2.1 67 0)) 67 0 (L.1 1) = s1
    have f1 : s1.1 = σ.1 ∧ s1.2.1 = σ.2.1 ∧ s1.2.2.2 = σ.2.2.2 := by rw [← hs1]; exact ⟨rfl, rfl, rfl⟩
    have f2 : ∀ k, ¬ k = 67 → s1.2.2.1 k = σ.2.2.1 k := fun k hk => by rw [← hs1, uA_k hk, uA_k hk]
    have f3 : ∀ i, i < 27 → Gv g (s1.2.2.1 67 i) := fun i hi => by
      rw [← hs1, uA_r, uA_r]
      by_cases z0 : i = 0
      · rw [z0, upd_same]; exact hh
      · rw [upd_other z0]
        by_cases z1 : i = 1
        · rw [z1, upd_same]; exact hv 0 (by decide)
        · rw [upd_other z1]; exact hv i hi
    clear hs1
    have n1 : sN s1 = sN σ := by show s1.2.2.2.2.1 = _; rw [f1.2.2]
    have b1 : BYr (s1.2.2.1 66) := by rw [f2 66 (by decide)]; exact hb.2.2.1
    have hq1 : HQ g l t (uI s1 7518 x8) := by
      unfold HQ at hq ⊢
      rw [show (uI s1 7518 x8).1 1 = σ.1 1 by rw [uI_o (by decide), f1.1], show (uI s1 7518 x8).2.2.1 3 = σ.2.2.1 3 from f2 3 (by decide), show sN (uI s1 7518 x8) = sN σ from n1]
      exact hq
    refine Tm_suc (fun k => by rw [f_X11_showValue]) ?_
    have bm : BYr ((uI s1 7518 x8).2.2.1 13) := by
      show BYr (s1.2.2.1 13)
      rw [f2 13 (by decide)]; exact hb.1
    have bP : BY False (uI s1 7518 x8) := by
      unfold BY at hb ⊢
      rw [show (uI s1 7518 x8).2.2.1 13 = σ.2.2.1 13 from f2 13 (by decide), show (uI s1 7518 x8).2.2.1 22 = σ.2.2.1 22 from f2 22 (by decide), show (uI s1 7518 x8).2.2.1 66 = σ.2.2.1 66 from f2 66 (by decide), show sN (uI s1 7518 x8) = sN σ from n1, uI_o (i := 1812) (by decide), uI_o (i := 1813) (by decide), uI_o (i := 1907) (by decide), f1.1]
      exact hb
    refine Tm_oxz (Tm_Bf (c_print (L := lI lZ 1 ((lI L 100 x8).1 1)) hq1 hh) (fun k => kb_f_X6_print k 0 _ _ bP)) (fun r z => ⟨z.1.1, z.1.2.1⟩) (fun r1 z1 => ?_)
    obtain ⟨⟨a1, a2, ⟨p1, p2, p3, p4⟩, a4⟩, byr⟩ := z1
    have l13 : uN ((lI L 100 x8).1 100) ≤ 2 := m8
    generalize hs2 : uI r1.2.1 7517 (r1.2.1.1 1203) = s2
    have g1 : ∀ i, ¬ (i = 404 ∨ i = 1203 ∨ i = 7517 ∨ i = 7518) → s2.1 i = σ.1 i := fun i hi => by
      rw [← hs2, uI_o (by omega), p1 i (by omega), uI_o (by omega), f1.1]
    have g17 : uN (s2.1 7517) ≤ 10400 := by rw [← hs2, uI_s]; exact a4
    have g18 : s2.1 7518 = x8 := by
      rw [← hs2, uI_o (by decide), p1 _ (by decide), uI_s]
      rfl
    have g2 : s2.2.1 = σ.2.1 := by
      rw [← hs2]
      show r1.2.1.2.1 = _
      rw [p2]
      exact f1.2.1
    have g3 : ∀ k, ¬ ((5 ≤ k ∧ k ≤ 11) ∨ k = 13) → s2.2.2.1 k = s1.2.2.1 k := fun k hk => by
      rw [← hs2]
      exact p3 k hk
    have g4 : s2.2.2.2 = σ.2.2.2 := by
      rw [← hs2]
      show r1.2.1.2.2.2 = _
      rw [p4]
      exact f1.2.2
    have n2 : sN s2 = sN σ := by show s2.2.2.2.2.1 = _; rw [g4]
    have b13 : BYr (s2.2.2.1 13) := by rw [← hs2]; exact byr.1
    have b66 : BYr (s2.2.2.1 66) := by rw [g3 66 (by omega)]; exact b1
    have n66 : sN σ 66 ≤ 10400 := hb.2.2.2.2.1
    clear hs2
    -- behind the row's widening
    have fin : ∀ (L' : LV) (s3 : CS) (c1 c2 : Nat), s3.1 = s2.1 → s3.2.1 = s2.2.1 → (∀ k, ¬ k = 66 → s3.2.2.1 k = s2.2.2.1 k) → BYr (s3.2.2.1 66) → s3.2.2.2.1 = s2.2.2.2.1 → s3.2.2.2.2.2 = s2.2.2.2.2.2 → (∀ k, ¬ k = 66 → sN s3 k = sN s2 k) → uN (s2.1 7517) ≤ sN s3 66 → sN s3 66 ≤ 10400 → (c1 + pC s3 66 10400 ≤ pC σ 66 10400 ∧ c2 + pS s3 66 10400 ≤ pS σ 66 10400) → Tm (fun k => f_X11_showValue k 2 L' s3) (fun r => r.1.1 = 0 ∧ CoP σ (r.1, r.2.1, (c1 + r.2.2.1, c2 + r.2.2.2)) ∧ SwF σ r.2.1 ∧ (∀ i, i < 27 → Gv g (r.2.1.2.2.1 67 i)) ∧ uN (r.2.1.1 7517) ≤ sN r.2.1 66 ∧ uN (r.2.1.1 7518) ≤ 2) := fun L' s3 c1 c2 e1 e2 e3 e4 e5 e6 e7 e8 e9 e10 => by
      have u7 : s3.1 7517 = s2.1 7517 := by rw [e1]
      have cl : (s3.1 7517).toNatClampNeg = uN (s2.1 7517) := by rw [u7, u_cl (by omega)]
      have ng : ¬ s3.1 7517 < 0 := by rw [u7, u_neg]; omega
      refine Tm_suc (fun k => by rw [f_X11_showValue]) ?_
      refine Tm_chk ⟨by decide, by decide, ng, by rw [cl]; show 0 + uN (s2.1 7517) ≤ 10400; omega, by rw [cl]; show 0 + uN (s2.1 7517) ≤ sN s3 66; omega⟩ ?_
      refine Tm_chk (fun i _ => by rw [e3 13 (by decide)]; exact b13 _) ?_
      refine Tm_suc (fun k => by rw [f_X11_showValue]) ?_
      generalize hs4 : uF s3 66 (va_cpy (s3.2.2.1 13) (s3.2.2.1 66) (0 : Int32).toNatClampNeg (0 : Int32).toNatClampNeg (s3.1 7517).toNatClampNeg) = s4
      have h1 : s4.1 = s3.1 ∧ s4.2.1 = s3.2.1 ∧ s4.2.2.2 = s3.2.2.2 := by rw [← hs4]; exact ⟨rfl, rfl, rfl⟩
      have h2 : ∀ k, ¬ k = 66 → s4.2.2.1 k = s3.2.2.1 k := fun k hk => by rw [← hs4]; exact updG_other hk
      clear hs4
      have n4 : sN s4 = sN s3 := by show s4.2.2.2.2.1 = _; rw [h1.2.2]
      have ph := Ph_66 (σ := σ) (s := s4) (fun k hk => by rw [n4, e7 k hk, n2])
      have pc4 : pC s4 66 10400 = pC s3 66 10400 ∧ pS s4 66 10400 = pS s3 66 10400 := by
        unfold pC pS
        rw [n4]
        exact ⟨rfl, rfl⟩
      refine Tm_some ⟨rfl, ⟨?_, ?_⟩, ⟨⟨fun i hi => by show s4.1 i = _; rw [h1.1, e1]; exact g1 i hi, by show s4.2.1 = _; rw [h1.2.1, e2, g2]⟩, ⟨fun k hk => by show s4.2.2.1 k = _; rw [h2 k (by omega), e3 k (by omega), g3 k (by omega), f2 k (by omega)], fun k hk => by show sN s4 k = _; rw [n4, e7 k hk, n2], by show s4.2.2.2.1 = _; rw [h1.2.2, e5, g4]⟩, by show s4.2.2.2.2.2 = _; rw [h1.2.2, e6, g4]⟩, fun i hi => ?_, ?_, ?_⟩
      · show c1 + 0 + PhC s4 ≤ PhC σ
        omega
      · show c2 + 0 + PhS s4 ≤ PhS σ
        omega
      · show Gv g (s4.2.2.1 67 i)
        rw [h2 67 (by decide), e3 67 (by decide), g3 67 (by omega)]
        exact f3 i hi
      · show uN (s4.1 7517) ≤ sN s4 66
        rw [h1.1, e1, n4]
        exact e8
      · show uN (s4.1 7518) ≤ 2
        rw [h1.1, e1, g18]
        exact m8
    refine Tm_chk ⟨by decide, by decide, by rw [n2]; omega⟩ ?_
    by_cases w : nI (sN s2 66) < s2.1 7517 ∧ sN s2 66 < (10400 : Int32).toNatClampNeg
    · refine Tm_yes w ?_
      refine Tm_chk (fun i _ => b66 i) ?_
      have w2 : sN σ 66 < 10400 := by rw [← n2]; exact w.2
      refine Tm_adR ?_
      have z66 : sN (uZ s2 66 10400) 66 = 10400 := (if_pos rfl : updN (sN s2) 66 10400 66 = 10400)
      refine Tm_mono (fin _ (uZ s2 66 10400) 1 10400 rfl rfl (fun k hk => updG_other hk) ?_ rfl rfl (fun k hk => (if_neg hk : updN (sN s2) 66 10400 k = sN s2 k)) (by rw [z66]; exact g17) (by rw [z66]; exact Nat.le_refl _) ?_) (fun r z => z)
      · show BYr (updG s2.2.2.1 66 _ 66)
        rw [updG_same]
        exact BYr_z b66 _
      · unfold pC pS
        rw [z66, if_pos w2, if_pos w2, if_neg (by decide), if_neg (by decide)]
        exact ⟨by omega, by omega⟩
    · refine Tm_no w ?_
      have le : uN (s2.1 7517) ≤ sN s2 66 := by
        rcases Nat.lt_or_ge (sN s2 66) (uN (s2.1 7517)) with y | y
        · exfalso
          refine w ⟨(u_ltn (by rw [u_n (by omega)]; omega) (by omega)).2 (by rw [u_n (by omega)]; exact y), ?_⟩
          show sN s2 66 < 10400
          omega
        · exact y
      refine Tm_mono (fin _ s2 0 0 rfl rfl (fun _ _ => rfl) b66 rfl rfl (fun _ _ => rfl) le (by rw [n2]; exact n66) ?_) (fun r z => ?_)
      · unfold pC pS
        rw [n2]
        exact ⟨by omega, by omega⟩
      · obtain ⟨z1, z2, z3⟩ := z
        rw [Nat.zero_add, Nat.zero_add] at z2
        exact ⟨z1, z2, z3⟩
  exact Tm_mono (Tm_Bf main by2) (fun r z => ⟨z.1.1, z.1.2.1, z.1.2.2.1, z.1.2.2.2.1, z.2, z.1.2.2.2.2.1, z.1.2.2.2.2.2⟩)
end DZB
end JnS553
section JnS554
/-! The house: other values are kept; seen. -/
section DZC
variable {σ σ' s : CS} {ρ τ ω : MS} {b : Bool} {sz j n n2 V : Nat} {XE : XEt} {L : LV} {c c1 c2 : Ct} {gl : List Gn} {pr : Nat → Nat} {g : Nat → Prop} {l : List Nat} {t B f0 u0 : Nat} {K K2 K3 K4 KB : Nat → Option Int32}
/-- the machine is left alone, but for the values that are kept -/
def PFx (σ σ' : CS) : Prop := ((∀ j, j < 3700 → ¬ (j = 404 ∨ j = 1203) → σ'.1 j = σ.1 j) ∧ ∀ j, j < 3700 → σ'.2.1 j = σ.2.1 j) ∧ (∀ k, k = 1 ∨ k = 2 ∨ k = 3 ∨ (20 ≤ k ∧ k ≤ 27) → σ'.2.2.1 k = σ.2.2.1 k ∧ sN σ' k = sN σ k) ∧ σ'.2.2.2.2.2.2 = σ.2.2.2.2.2.2
theorem PFx_pi (f : PFx σ σ') : sPi σ' = sPi σ := f.2.2
theorem SvR_xx (x : CtX c1 c2) (f : PFx σ σ') {p s : Nat} (hp : p < 9) (h : SvR c1 K σ p s) : SvR c2 K σ' p s := by
  obtain ⟨⟨f1, f1'⟩, f2, f3⟩ := f
  have e : ∀ i, i < 16 → σ'.1 (100 * (28 + p) + i) = σ.1 (100 * (28 + p) + i) := fun i hi => f1 _ (by omega) (by omega)
  have n20 := (f2 20 (by omega)).2
  have n21 := (f2 21 (by omega)).2
  unfold SvR at h ⊢
  rw [e 0 (by omega), e 1 (by omega), e 2 (by omega), e 8 (by omega), e 7 (by omega), e 5 (by omega), e 13 (by omega), e 12 (by omega), e 14 (by omega), e 15 (by omega), n20, n21]
  exact ⟨RUN_m x h.1, h.2.1, h.2.2.1, POK_m x _ _ h.2.2.2⟩
theorem SVB_xx (f : PFx σ σ') (hp : ∀ i, i < 9 → sPi σ i < 9) (h8 : uN (σ.1 2404) ≤ 8) (h : SVB σ) : SVB σ' := by
  have pi := PFx_pi f
  obtain ⟨⟨f1, f1'⟩, f2, f3⟩ := f
  have e : ∀ i, i < 9 → σ'.1 (100 * (28 + sPi σ i) + 3) = σ.1 (100 * (28 + sPi σ i) + 3) := fun i hi => f1 _ (by have := hp i hi; omega) (by omega)
  obtain ⟨h1, h2⟩ := h
  refine ⟨fun i hi => ?_, fun z => ?_⟩
  · rw [f1 2404 (by decide) (by decide)] at hi
    obtain ⟨k1, k2, k3⟩ := h1 i hi
    rw [pi, e i (by omega), f1 2407 (by decide) (by decide)]
    refine ⟨k1, k2, fun k h3 h4 => ?_⟩
    rw [f1 2404 (by decide) (by decide)] at h4
    rw [e k (by omega)]
    exact k3 k h3 h4
  · rw [f1 2405 (by decide) (by decide)] at z
    rw [pi, e 8 (by omega)]
    exact h2 z
theorem SVK_xx (x : CtX c1 c2) (f : PFx σ σ') (h : SVK c1 K σ) : SVK c2 K σ' := by
  have pi := PFx_pi f
  have f0 := f
  obtain ⟨⟨f1, f1'⟩, f2, f3⟩ := f
  obtain ⟨⟨⟨h1, h2⟩, h3⟩, h4, h5, h6, h7⟩ := h
  have e : ∀ i k, i < 9 → k < 16 → σ'.1 (100 * (28 + sPi σ i) + k) = σ.1 (100 * (28 + sPi σ i) + k) := fun i k hi hk => f1 _ (by have := h4 i hi; omega) (by omega)
  have r27 := (f2 27 (by omega)).1
  have e4 := f1 2404 (by decide) (by decide)
  have e3 := f1 2403 (by decide) (by decide)
  have e5 := f1 2405 (by decide) (by decide)
  refine ⟨⟨⟨by rw [e4]; exact h1, by rw [e3]; exact h2⟩, SVB_xx f0 h4 h1 h3⟩, by rw [pi]; exact h4, by rw [pi]; exact h5, fun i hi => ?_, fun z => ?_⟩
  · rw [e4] at hi
    obtain ⟨k1, k2, k3⟩ := h6 i hi
    rw [pi, r27, e i 2 (by omega) (by omega), e i 13 (by omega) (by omega), e3, e4]
    exact ⟨SvR_xx x f0 (h4 i (by omega)) k1, k2, k3⟩
  · rw [e5] at z
    obtain ⟨k1, k2, k3⟩ := h7 z
    rw [pi, r27, e 8 2 (by omega) (by omega), e 8 13 (by omega) (by omega), e3]
    exact ⟨SvR_xx x f0 (h4 8 (by omega)) k1, k2, k3⟩
theorem HQ_xx (f : PFx σ σ') (h : HQ g l t σ) : HQ g l t σ' := by
  obtain ⟨⟨f1, f1'⟩, f2, f3⟩ := f
  unfold HQ at h ⊢
  rw [f1 1 (by decide) (by decide), (f2 3 (by omega)).2, (f2 1 (by omega)).2, (f2 2 (by omega)).2, (f2 3 (by omega)).1]
  exact h
theorem usI_xx (f : PFx σ σ') (h8 : sPi σ 8 < 9) : usI σ' = usI σ := by
  have pi := PFx_pi f
  obtain ⟨⟨f1, f1'⟩, f2, f3⟩ := f
  unfold usI
  rw [pi, f1 2405 (by decide) (by decide), f1 2403 (by decide) (by decide), f1 (100 * (28 + sPi σ 8) + 2) (by omega) (by omega), f1 (100 * (28 + sPi σ 8) + 13) (by omega) (by omega)]
theorem Rwk_67 {M : Nat → Int32} {f : Nat → Int32} (h : ∀ i, i < 27 → Gv g (f i)) : Rwk g M KN f 27 := fun i hi => ⟨Or.inl (h i hi), fun _ => h i hi, fun v e => (by cases e)⟩
theorem VI_xx (f : PFx σ σ') (h67 : ∀ i, i < 27 → Gv g (σ'.2.2.1 67 i)) (h : VI g K K2 K3 K4 σ) : VI g K K2 K3 K4 σ' := by
  have us := usI_xx f h.2.2.2.2.1
  have pi := PFx_pi f
  obtain ⟨⟨f1, f1'⟩, f2, f3⟩ := f
  obtain ⟨v1, v2, v3, v4, v5, v6⟩ := h
  refine ⟨?_, ?_, ?_, Rwk_67 h67, by rw [pi]; exact v5, ?_⟩
  · rw [f1 1902 (by decide) (by decide), (f2 20 (by omega)).2, (f2 3 (by omega)).1, (f2 20 (by omega)).1]; exact v1
  · rw [(f2 3 (by omega)).1, (f2 23 (by omega)).1]; exact v2
  · rw [f1 1913 (by decide) (by decide), (f2 21 (by omega)).2, (f2 3 (by omega)).1, (f2 21 (by omega)).1]; exact v3
  · rw [us, (f2 26 (by omega)).2, (f2 3 (by omega)).1, (f2 26 (by omega)).1]; exact v6
theorem MsG_xx (x : CtX c1 c2) (f : PFx σ σ') (ct : CtL c2 σ') (by0 : BY False σ') (h67 : ∀ i, i < 27 → Gv g (σ'.2.2.1 67 i)) (h : MsG c1 g l t σ) : MsG c2 g l t σ' := by
  obtain ⟨h1, h2, K, K2, K3, K4, mi, rn⟩ := h
  obtain ⟨m1, m2, m3, m4, m5, m6, m7, m8, m9, m10, m11⟩ := mi
  have f0 := f
  obtain ⟨⟨f1, f1'⟩, f2, f3⟩ := f
  refine ⟨by0, by rw [f1 1902 (by decide) (by decide)]; exact h2, K, K2, K3, K4, ⟨HQ_xx f0 m1, VI_xx f0 h67 m2, ct, ?_, SVK_xx x f0 m5, by rw [x.2.1]; exact m6, ?_, ?_, ?_, ?_, ?_⟩, fun z => ?_⟩
  · rw [(f2 20 (by omega)).2, f1 1912 (by decide) (by decide), f1 1913 (by decide) (by decide)]
    exact POK_m x _ _ m4
  · rw [x.2.1, f1 1902 (by decide) (by decide)]; exact m7
  · rw [f1 1903 (by decide) (by decide), f1 1814 (by decide) (by decide)]; exact m8
  · rw [f1 1912 (by decide) (by decide)]; exact m9
  · rw [f1 1914 (by decide) (by decide)]; exact m10
  · rw [f1 1915 (by decide) (by decide)]; exact m11
  · rw [f1 1907 (by decide) (by decide)] at z
    rw [f1 1905 (by decide) (by decide), f1 1900 (by decide) (by decide), f1 1901 (by decide) (by decide), f1 1902 (by decide) (by decide), f1 1908 (by decide) (by decide)]
    exact ⟨(rn z).1, RUN_m x (rn z).2⟩
theorem MsG_v (h : MsG c g l t σ) : HQ g l t σ ∧ ∀ i, i < 27 → Gv g (σ.2.2.1 67 i) := by
  obtain ⟨h1, h2, K, K2, K3, K4, mi, rn⟩ := h
  exact ⟨mi.1, fun i hi => (mi.2.1.2.2.2.1 i hi).2.1 rfl⟩
theorem Mst_G (h : Mst c σ) : ∃ g l t, MsG c g l t σ := by
  obtain ⟨h1, h2, g, l, t, K, K2, K3, K4, mi, rn⟩ := h
  exact ⟨g, l, t, h1, h2, K, K2, K3, K4, mi, rn⟩
theorem Mst_of (h : MsG c g l t σ) : Mst c σ := by
  obtain ⟨h1, h2, K, K2, K3, K4, mi, rn⟩ := h
  exact ⟨h1, h2, g, l, t, K, K2, K3, K4, mi, rn⟩
theorem SwF_x (h : SwF σ s) : PFx σ s := ⟨⟨fun j hj n4 => h.1.1 j (by omega), fun j _ => by rw [h.1.2]⟩, fun k hk => ⟨h.2.1.1 k (by omega), h.2.1.2.1 k (by omega)⟩, by rw [h.2.2]⟩
theorem Hmb_xx (f : PFx σ s) (h67 : ∀ i, i < 27 → Gv g (s.2.2.1 67 i)) (h : Hmb g l t K4 σ) : Hmb g l t K4 s := by
  obtain ⟨h1, ⟨h2, h2', h2''⟩, h3, h4, h5, h6, h7⟩ := h
  have pi := PFx_pi f
  have f0 := f
  obtain ⟨⟨f1, f1'⟩, f2, f3⟩ := f
  exact ⟨HQ_xx f0 h1, ⟨by rw [(f2 20 (by omega)).2]; exact h2, by rw [(f2 21 (by omega)).2]; exact h2', by rw [f1 1814 (by decide) (by decide)]; exact h2''⟩, by rw [(f2 3 (by omega)).1, (f2 23 (by omega)).1]; exact h3, Rwk_67 h67, by rw [(f2 26 (by omega)).2]; exact h5, by rw [pi]; exact h6, by rw [pi]; exact h7⟩
/-- the house over a value shown -/
theorem SwF_M (h : SwF σ s) : (∀ i, 3700 ≤ i → ¬ (i = 7517 ∨ i = 7518) → s.1 i = σ.1 i) ∧ (∀ k, k = 38 ∨ (41 ≤ k ∧ k ≤ 65) ∨ (69 ≤ k ∧ k ≤ 74) → s.2.2.1 k = σ.2.2.1 k ∧ sN s k = sN σ k) ∧ (sCur s = sCur σ ∧ sOt s = sOt σ ∧ sPr s = sPr σ ∧ sKd s = sKd σ) := by
  refine ⟨fun i h1 h2 => h.1.1 i (by omega), fun k hk => ⟨h.2.1.1 k (by omega), h.2.1.2.1 k (by omega)⟩, ?_, ?_, ?_, ?_⟩
  · show s.2.2.2.2.2.1.1 = _; rw [h.2.2]
  · show s.2.2.2.2.2.1.2.1 = _; rw [h.2.2]
  · show s.2.2.2.2.2.1.2.2.1 = _; rw [h.2.2]
  · show s.2.2.2.2.2.1.2.2.2.2 = _; rw [h.2.2]
end DZC
end JnS554
