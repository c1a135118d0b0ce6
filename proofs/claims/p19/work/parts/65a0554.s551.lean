section JnS551
/-! The house: start, step, back. -/
section DYZ
variable {σ s : CS} {ρ τ ω : MS} {b : Bool} {sz j n n2 V : Nat} {XE : XEt} {L : LV} {c : Ct} {gl : List Gn} {pr : Nat → Nat}
theorem ka_3 {m : Nat} (k : Nat) (L : LV) (σ : CS) (h : KG m σ) : Gf m (f_X3_advance k 3 L σ) := by
  cases k with
  | zero => exact Gf_no
  | succ k => exact Gf_eq (by rw [f_X3_advance]) (Gf_so h)
theorem ka_4 {m : Nat} (k : Nat) (L : LV) (σ : CS) (h : KG m σ) : Gf m (f_X3_advance k 4 L σ) := by
  cases k with
  | zero => exact Gf_no
  | succ k =>
    refine Gf_eq (by rw [f_X3_advance]) ?_
    exact Gf_oP (fun _ => Gf_ite (ka_3 _ _ _ (KG_I (by decide) (KG_I (by decide) (KG_I (by decide) h)))) Gf_no)
theorem ka_2 {m : Nat} (k : Nat) (L : LV) (σ : CS) (h : KG m (uI σ 1814 (L.1 1))) : Gf m (f_X3_advance k 2 L σ) := by
  cases k with
  | zero => exact Gf_no
  | succ k =>
    refine Gf_eq (by rw [f_X3_advance]) ?_
    exact Gf_op (kg_y_X9_expect _ _ _ _ h) (fun _ h1 => Gf_ox (kg_f_X3_execute _ _ _ _ h1) (fun _ h2 => Gf_ite (ka_3 _ _ _ h2) (Gf_op (kg_y_J7_fill_53178__a23 _ _ _ _ h2) (fun _ h3 => ka_4 _ _ _ (KG_I (by decide) h3)))))
/-- no more statements than were asked for -/
theorem ka_0 {m : Nat} (h : uN (σ.1 1903) + uN (L.1 1) ≤ m) (hm : m < 4294967296) : ∀ (k : Nat) (r : RS), f_X3_advance k 0 L σ = some r → uN (r.2.1.1 1903) ≤ m := by
  intro k r e
  cases k with
  | zero => cases e
  | succ k =>
    have b1 : ∀ k', f_X3_advance k' 1 L σ = some r → uN (r.2.1.1 1903) ≤ m := fun k' e' => by
      cases k' with
      | zero => cases e'
      | succ k' =>
        rw [f_X3_advance] at e'
        obtain rfl := Option.some.inj e'
        show uN (σ.1 1903) ≤ m
        omega
    rw [f_X3_advance] at e
    cases hp : sPr σ with
    | none => rw [hp] at e; exact b1 k e
    | some b =>
      rw [hp] at e
      by_cases h7 : σ.1 1907 = 0
      · have e' : (if σ.1 1907 = 0 then f_X3_advance k 2 L σ else f_X3_advance k 1 L σ) = some r := e
        rw [if_pos h7] at e'
        have z := ka_2 (m := m) k L σ ⟨by rw [uI_o (by decide), uI_s]; exact h, hm⟩ r e'
        have z1 := z.1
        omega
      · have e' : (if σ.1 1907 = 0 then f_X3_advance k 2 L σ else f_X3_advance k 1 L σ) = some r := e
        rw [if_neg h7] at e'
        exact b1 k e'
theorem c_advance2 (ms : Mst c σ) (ck : CkA c) (k0 : tcS c 0) (f0' : tcF c 0 ≤ 1000) (hn : uN (σ.1 1903) + uN (L.1 1) ≤ 10240000) : Tm (fun k => f_X3_advance k 0 L σ) (fun q => (q.1 = (0, 0) ∧ CoP σ q ∧ MFr σ q.2.1 ∧ Mst c q.2.1) ∧ uN (q.2.1.1 1903) ≤ uN (σ.1 1903) + uN (L.1 1)) := Tm_pt (c_advance ms ck k0 f0' hn) (fun k r e => ka_0 (Nat.le_refl _) (by omega) k r e)
/-- what the machine leaves of the house -/
def HfM (σ s : CS) : Prop := (∀ i, 3700 ≤ i → ¬ (i = 7511 ∨ i = 7519) → s.1 i = σ.1 i) ∧ (∀ k, k = 38 ∨ (41 ≤ k ∧ k ≤ 66) ∨ (69 ≤ k ∧ k ≤ 74) → s.2.2.1 k = σ.2.2.1 k ∧ sN s k = sN σ k) ∧ s.2.2.2.1 = σ.2.2.2.1 ∧ (sCur s = sCur σ ∧ sOt s = sOt σ ∧ sKd s = sKd σ)
theorem HfM_t {s2 : CS} (a : HfM σ s) (d : HfM s s2) : HfM σ s2 := ⟨fun i h1 h2 => (d.1 i h1 h2).trans (a.1 i h1 h2), fun k hk => ⟨(d.2.1 k hk).1.trans (a.2.1 k hk).1, (d.2.1 k hk).2.trans (a.2.1 k hk).2⟩, d.2.2.1.trans a.2.2.1, ⟨d.2.2.2.1.trans a.2.2.2.1, d.2.2.2.2.1.trans a.2.2.2.2.1, d.2.2.2.2.2.trans a.2.2.2.2.2⟩⟩
theorem HfM_m (h : MFr σ s) : HfM σ s := by
  obtain ⟨h1, h2, h3, h4, h5⟩ := h
  have e5 : s.2.2.2.2.2.1 = σ.2.2.2.2.2.1 := h5
  refine ⟨fun i a b => h1 i (by omega), fun k hk => h3 k (fun z => by unfold rwM at z; omega), h4, ⟨?_, ?_, ?_⟩⟩
  · show s.2.2.2.2.2.1.1 = _; rw [e5]
  · show s.2.2.2.2.2.1.2.1 = _; rw [e5]
  · show s.2.2.2.2.2.1.2.2.2.2 = _; rw [e5]
theorem HfM_cM (h : HfM σ s) : cM c b s = cM c b σ := by
  have p13 := pR_13 b
  have p0 := pR0_c (sKd σ b)
  have kd := h.2.2.2.2.2
  unfold cM
  show (s.2.2.1 (pR0 (sKd s b)), sN s (pR0 (sKd s b)), (fun u => uN (s.2.2.1 (pR13 b) u)), (fun u => uN (s.2.2.1 (pR14 b) u)), (fun u => uN (s.2.2.1 (pR18 b) u)), tcK c, tcD c) = _
  rw [kd, (h.2.1 (pR0 (sKd σ b)) (by omega)).1, (h.2.1 (pR0 (sKd σ b)) (by omega)).2, (h.2.1 (pR13 b) (by omega)).1, (h.2.1 (pR14 b) (by omega)).1, (h.2.1 (pR18 b) (by omega)).1]
theorem HfM_CdL (h : HfM σ s) (cd : CdL b sz σ) : CdL b sz s := by
  have p0 := pR0_c (sKd σ b)
  have kd := h.2.2.2.2.2
  have fc := fP_c b 1
  have en : cdn b s = cdn b σ := by
    show sN s (pR0 (sKd s b)) = sN σ (pR0 (sKd σ b))
    rw [kd, (h.2.1 (pR0 (sKd σ b)) (by omega)).2]
  exact ⟨(h.1 _ (by omega) (by omega)).trans cd.1, by rw [en]; exact cd.2.1, by rw [en, (h.2.1 43 (by omega)).2, (h.2.1 51 (by omega)).2]; exact cd.2.2⟩
theorem HfM_pg (h : HfM σ s) (p : PgI gl pr b sz V c σ) : PgI gl pr b sz V c s := by
  have p13 := pR_13 b
  have p0 := pR0_c (sKd σ b)
  have kd := h.2.2.2.2.2
  have fc := fP_c b 2
  have fc11 := fP_c b 11
  obtain ⟨E, nu, vg, e0, MD, e, ⟨tb, de⟩, ⟨ut, r18⟩, pg, ⟨eN, cd⟩, ⟨en1, en2, en3⟩, vw⟩ := p
  have rr : ∀ k, 41 ≤ k ∧ k ≤ 66 ∨ 69 ≤ k ∧ k ≤ 74 → s.2.2.1 k = σ.2.2.1 k := fun k hk => (h.2.1 k (by omega)).1
  refine ⟨E, nu, vg, e0, MD, e, ⟨TbR_s tb (h.1 _ (by omega) (by omega)) (by rw [h.2.2.1]) (by rw [h.2.2.1]) (rr _ (by omega)) (rr _ (by omega)) (rr _ (by omega)) (rr _ (by omega)), de⟩, ⟨fun i hi => ?_, by rw [rr _ (by omega)]; exact r18⟩, pg, ⟨eN, fun i hi => ?_⟩, ⟨(h.1 _ (by omega) (by omega)).trans en1, en2, en3⟩, fun i hi => by rw [rr 64 (by omega)]; exact vw i hi⟩
  · rw [rr (pR13 b) (by omega), rr (pR14 b) (by omega), rr (pR18 b) (by omega), rr (pR15 b) (by omega)]
    exact ut i hi
  · rw [← cd i hi]
    show s.2.2.1 (pR0 (sKd s b)) i = σ.2.2.1 (pR0 (sKd σ b)) i
    rw [kd, rr _ (by omega)]
/-- a run stands behind it -/
theorem IC_run (h : IC XE j σ) (hj : j < 512) (h10 : ¬ σ.1 7510 = 0) (fr : HfM σ s) (hp : sPr s = some (sCur σ)) (hm : ∃ (sz : Nat) (gl : List Gn) (pr : Nat → Nat) (c : Ct), XE = some (gl, pr) ∧ PgI gl pr (sCur σ) sz (uN (σ.1 7513)) c σ ∧ CdL (sCur σ) sz σ ∧ Mst (cM c (sCur σ) σ) s ∧ uN (s.1 1903) ≤ 20000 * (j + 1)) : IC XE (j + 1) s := by
  obtain ⟨n, sz, ⟨t1, t2, t3, t4⟩, ⟨p1, p2, p3, p4, p5, p6⟩, ⟨q1, q2, q3⟩, ⟨m1, m2⟩, pp⟩ := h
  obtain ⟨sz', gl, pr, c, k2, k3, y3, ms, bg⟩ := hm
  have k0 := h10
  obtain rfl : sz' = sz := by
    have w := u_eq.1 (y3.1.symm.trans p5.1)
    have l1 := cdn_le y3
    have l2 := y3.2.1
    have l3 := p5.2.1
    rw [u_n (by omega), u_n (by omega)] at w
    exact w
  have ff := fr.1
  have sc := fr.2.2.2.1
  refine ⟨n, sz', ⟨?_, (ff 3701 (by decide) (by decide)).trans t2, by omega, by rw [fr.2.2.1]; exact t4⟩, ⟨by rw [sc, fr.2.2.2.2.1]; exact p1, fun d => ?_, by rw [(fr.2.1 41 (by omega)).2]; exact p3, by rw [(fr.2.1 42 (by omega)).2]; exact p4, by rw [sc]; exact HfM_CdL fr p5, by omega⟩, ⟨by rw [ff 7517 (by decide) (by decide), (fr.2.1 66 (by omega)).2]; exact q1, by rw [ff 7518 (by decide) (by decide)]; exact q2, by rw [ff 7513 (by decide) (by decide)]; exact q3⟩, ⟨Hmx_of ms, ms.1⟩, ?_⟩
  · unfold tOK at t1 ⊢
    rw [ff 3701 (by decide) (by decide), (fr.2.1 38 (by omega)).1, (fr.2.1 38 (by omega)).2]
    exact t1
  · have p13 := pR_13 d
    exact ⟨by rw [(fr.2.1 _ (by omega)).1]; exact (p2 d).1, by rw [(fr.2.1 _ (by omega)).1]; exact (p2 d).2⟩
  · rw [ff 7510 (by decide) (by decide), ff 7513 (by decide) (by decide), sc]
    exact Or.inr ⟨k0, gl, pr, c, k2, HfM_pg fr k3, fun _ => ⟨hp, by rw [HfM_cM fr]; exact ms, bg⟩⟩
end DYZ
end JnS551
section JnS552
/-! The house: start, step, back, on both sides. -/
section DZA
variable {σ s : CS} {ρ τ ω : MS} {b : Bool} {sz j n n2 V : Nat} {XE : XEt} {L : LV} {c : Ct} {gl : List Gn} {pr : Nat → Nat}
theorem HfM_7 {x : Int32} : HfM σ (uI σ 7511 x) := ⟨fun i _ h2 => uI_o (by omega), fun _ _ => ⟨rfl, rfl⟩, rfl, ⟨rfl, rfl, rfl⟩⟩
theorem PFm_7 {x : Int32} {i : Nat} (hi : 3700 ≤ i) : PFm σ (uI σ i x) := ⟨⟨fun j hj _ => uI_o (by omega), fun _ _ => rfl⟩, fun _ _ => ⟨rfl, rfl⟩, rfl⟩
theorem HfM_rel (fr : HfM σ s) (h : tRel σ τ) : tRel s τ := tRel_s h (fr.1 3701 (by decide) (by decide)) (fr.2.1 38 (by omega)).1
/-- the machine opens the program that stands -/
theorem c_st {x : Int64} (h : IC XE j σ) (h10 : ¬ σ.1 7510 = 0) : Tm (fun k => f_X11_start k 1 (lJ lZ 1 x) σ) (fun r => r.1 = (0, 0) ∧ CoP σ r ∧ HfM σ r.2.1 ∧ r.2.1.1 7511 = 1 ∧ sPr r.2.1 = some (sCur σ) ∧ uN (r.2.1.1 1903) = 0 ∧ ∃ (sz : Nat) (gl : List Gn) (pr : Nat → Nat) (c : Ct), XE = some (gl, pr) ∧ PgI gl pr (sCur σ) sz (uN (σ.1 7513)) c σ ∧ CdL (sCur σ) sz σ ∧ Mst (cM c (sCur σ) σ) r.2.1) := by
  obtain ⟨n, sz, ⟨t1, t2, t3, t4⟩, ⟨p1, p2, p3, p4, p5, p6⟩, ⟨q1, q2, q3⟩, ⟨m1, m2⟩, pp⟩ := h
  obtain ⟨k0, gl, pr, c, k2, k3, k4⟩ := pp.resolve_left (fun z => h10 z.1)
  have ck := ck_M k3 p5 (p2 _).1
  have en := en_M k3 p5
  have fs := fs_M k3 p5
  have f7 : PFm σ (uI σ 7511 1) := PFm_7 (by decide)
  obtain ⟨g, l, t, K4, hb⟩ := Hmx_m f7 m1
  have fc := fP_c (sCur σ) 2
  have e2 : (uI σ 7511 1).1 (fP (sCur σ) 2) = σ.1 (fP (sCur σ) 2) := uI_o (by omega)
  have en' : EnP (cM c (sCur σ) σ) (uI σ 7511 1) (sCur σ) := by
    unfold EnP at en ⊢
    rw [e2]
    exact en
  have ct : CtL (cM c (sCur σ) σ) (uPr (uI σ 7511 1) (some (sCur σ))) := ⟨sCur σ, rfl, rfl, rfl, fun u _ => ⟨rfl, rfl, rfl⟩⟩
  refine Tm_suc (fun k => by rw [f_X11_start]) ?_
  refine Tm_oxc (c_open (b := sCur σ) (L := lJ (lB lZ 1 (sCur (uI σ 7511 1))) 2 ((lJ lZ 1 x).2.1 1)) hb (BY_m f7 m2) rfl ct en') (fun r z => by rw [z.1]) (fun r1 z1 => ?_)
  obtain ⟨a1, a2, a3, a4, a5⟩ := z1
  have u0 : uN (r1.2.1.1 1903) = 0 := by rw [a2]; rfl
  refine Tm_oxc (c_advance2 (L := lI lZ 1 0) a5 ck fs.1 (by have := fs.2; omega) (by rw [u0]; show 0 + 0 ≤ _; omega)) (fun r z => by rw [z.1.1]) (fun r2 z2 => Tm_some ?_)
  obtain ⟨⟨b1, b2, b3, b4⟩, b5⟩ := z2
  rw [u0] at b5
  have b5' : uN (r2.2.1.1 1903) ≤ 0 + 0 := b5
  have ph := Ph_s (σ := σ) (σ' := uI σ 7511 1) rfl
  have h1 : HfM σ (uL (uPr (uI σ 7511 1) (some (sCur σ))) 1817 x) := ⟨fun i _ h2 => uI_o (by omega), fun _ _ => ⟨rfl, rfl⟩, rfl, ⟨rfl, rfl, rfl⟩⟩
  have h2 := HfM_t (HfM_t h1 (HfM_m a4)) (HfM_m b3)
  refine ⟨rfl, ⟨?_, ?_⟩, h2, ?_, ?_, by show uN (r2.2.1.1 1903) = 0; omega, sz, gl, pr, c, k2, k3, p5, b4⟩
  · have w1 := a3.1
    have w2 := b2.1
    show r1.2.2.1 + (r2.2.2.1 + 0) + PhC r2.2.1 ≤ PhC σ
    omega
  · have w1 := a3.2
    have w2 := b2.2
    show r1.2.2.2 + (r2.2.2.2 + 0) + PhS r2.2.1 ≤ PhS σ
    omega
  · show r2.2.1.1 7511 = 1
    rw [b3.1 7511 (by decide), a4.1 7511 (by decide)]
    exact (uI_s : (uI σ 7511 1).1 7511 = 1)
  · show r2.2.1.2.2.2.2.2.1.2.2.1 = _
    rw [b3.2.2.2.2, a4.2.2.2.2]
    rfl
/-- one step of both: a run stands behind -/
theorem IB_run (hic : IC XE (j + 1) s) (rf : RfJ XE (j + 1) ω) (fr : HfM σ s) (tr : tRel σ τ) (e10 : σ.1 7510 = 0 ↔ τ.1 111 = 0) (e13 : σ.1 7513 = τ.1 73) (k : KpT τ ω ∨ (ω.1 4 = τ.1 4 ∧ ω.2.2 3 = τ.2.2 3) ∧ ω.1 73 = τ.1 73 ∧ ω.1 111 = τ.1 111) (e11 : s.1 7511 = 0 ↔ ω.1 112 = 0) : IB (j + 1) s ω := by
  have tr2 := HfM_rel fr tr
  have e1 : s.1 7510 = σ.1 7510 := fr.1 7510 (by decide) (by decide)
  have e3 : s.1 7513 = σ.1 7513 := fr.1 7513 (by decide) (by decide)
  rcases k with k | ⟨⟨k1, k2⟩, k3, k4⟩
  · exact ⟨XE, hic, rf, KpT_rel tr2 k, by rw [e1, k.2.2.1]; exact e10, e11, by rw [e3, k.2.1]; exact e13⟩
  · refine ⟨XE, hic, rf, ?_, by rw [e1, k4]; exact e10, e11, by rw [e3, k3]; exact e13⟩
    unfold tRel at tr2 ⊢
    rw [k1, k2]
    exact tr2
theorem hp_start (hj : j < 512) (a1 a2 : Int32) : cPr j (fun x => x = 0 ∨ x = 2) (fun σ k => f_X11_start k 0 (lJ lZ 1 ((((((a1.toInt64)) <<< ((32 : Int32).toInt64 &&& 63))) ||| ((((a2.toInt64)) &&& 4294967295))))) σ) (fun τ k => x_start k 0 (fun _ => 0) (updW (fun _ => 0) 1 ((((((a1.toInt64)) <<< ((32 : Int32).toInt64 &&& 63))) ||| ((((a2.toInt64)) &&& 4294967295))))) τ) (fun r q => q.2.1 2 = wv 2 1 1 r.1.1) := by
  generalize (((((a1.toInt64)) <<< ((32 : Int32).toInt64 &&& 63))) ||| ((((a2.toInt64)) &&& 4294967295))) = x
  intro σ τ h
  obtain ⟨XE, ic, rf, tr, e10, e11, e13⟩ := h
  show Tm (fun k => f_X11_start k 0 (lJ lZ 1 x) σ) _
  refine Tm_suc (fun k => by rw [f_X11_start]) ?_
  refine Tm_ite (fun c => ?_) (fun c => ?_)
  · refine Tm_some ⟨Or.inr rfl, by show 1 + PhC σ ≤ _; omega, by show 6 + PhS σ ≤ _; omega, ?_⟩
    refine Tm_mono (rj_start rf) (fun q w => ?_)
    obtain ⟨w1, w2, w3, w4, w5, w6⟩ := w
    have c2 := e10.1 c
    rw [if_pos c2] at w2
    have n11 : σ.1 7511 = 0 := by
      obtain ⟨n, sz, _, _, _, _, pp⟩ := ic
      exact pp.elim (fun z => z.2.1) (fun z => absurd c z.1)
    refine ⟨IB_run (σ := σ) (IC_s ic hj) w1 ⟨fun _ _ _ => rfl, fun _ _ => ⟨rfl, rfl⟩, rfl, ⟨rfl, rfl, rfl⟩⟩ tr e10 e13 (Or.inr ⟨w3, w4, w5⟩) ⟨fun _ => w6.2 c2, fun _ => n11⟩, w2⟩
  · refine Tm_mono (c_st ic c) (fun r z => ?_)
    obtain ⟨z1, z2, z3, z4, z5, z6, sz, gl, pr, cc, y1, y2, y3, y4⟩ := z
    refine ⟨Or.inl (by rw [z1]), by have := z2.1; omega, by have := z2.2; omega, ?_⟩
    refine Tm_mono (rj_start rf) (fun q w => ?_)
    obtain ⟨w1, w2, w3, w4, w5, w6⟩ := w
    have c2 : ¬ τ.1 111 = 0 := fun e => c (e10.2 e)
    rw [if_neg c2] at w2
    have hic : IC XE (j + 1) r.2.1 := IC_run ic hj c z3 z5 ⟨sz, gl, pr, cc, y1, y2, y3, y4, by rw [z6]; exact Nat.zero_le _⟩
    exact ⟨IB_run hic w1 z3 tr e10 e13 (Or.inr ⟨w3, w4, w5⟩) ⟨fun e => absurd (z4.symm.trans e) (by decide), fun e => absurd (w6.1 e) c2⟩, by show q.2.1 2 = wv 2 1 1 r.1.1; rw [z1]; exact w2⟩
/-- a run stands: what is known -/
theorem IC_r (h : IC XE j σ) (h11 : ¬ σ.1 7511 = 0) : ¬ σ.1 7510 = 0 ∧ sPr σ = some (sCur σ) ∧ uN (σ.1 1903) ≤ 20000 * j ∧ ∃ (sz : Nat) (gl : List Gn) (pr : Nat → Nat) (c : Ct), XE = some (gl, pr) ∧ PgI gl pr (sCur σ) sz (uN (σ.1 7513)) c σ ∧ CdL (sCur σ) sz σ ∧ Mst (cM c (sCur σ) σ) σ ∧ CkA (cM c (sCur σ) σ) ∧ EnP (cM c (sCur σ) σ) σ (sCur σ) ∧ tcS (cM c (sCur σ) σ) 0 ∧ tcF (cM c (sCur σ) σ) 0 ≤ 200 := by
  obtain ⟨n, sz, t, ⟨p1, p2, p3, p4, p5, p6⟩, q, m, pp⟩ := h
  obtain ⟨k0, gl, pr, c, k2, k3, k4⟩ := pp.resolve_left (fun z => h11 z.2.1)
  obtain ⟨y1, y2, y3⟩ := k4 h11
  exact ⟨k0, y1, y3, sz, gl, pr, c, k2, k3, p5, y2, ck_M k3 p5 (p2 _).1, en_M k3 p5, (fs_M k3 p5).1, (fs_M k3 p5).2⟩
theorem hp_step (hj : j < 512) (a1 : Int32) : cPr j (fun x => x = 0 ∨ x = 2 ∨ x = 1) (fun σ k => f_X11_step k 0 (lI lZ 1 a1) σ) (fun τ k => x_step k 0 (upd (fun _ => 0) 1 a1) τ) (fun _ _ => True) := by
  intro σ τ h
  have h0 := h
  obtain ⟨XE, ic, rf, tr, e10, e11, e13⟩ := h
  show Tm (fun k => f_X11_step k 0 (lI lZ 1 a1) σ) _
  have thr : ∀ x : Nat, (x = 2 ∨ x = 1) → (fun r : RS => (r.1.1 = 0 ∨ r.1.1 = 2 ∨ r.1.1 = 1) ∧ r.2.2.1 + PhC r.2.1 ≤ PhC σ + 2 ∧ r.2.2.2 + PhS r.2.1 ≤ PhS σ + 12 ∧ Tm (fun k => x_step k 0 (upd (fun _ => 0) 1 a1) τ) (fun q => IB (j + 1) r.2.1 q.2 ∧ True)) ((x, 0), σ, (1, 6)) := fun x hx => ⟨Or.inr hx, by show 1 + PhC σ ≤ _; omega, by show 6 + PhS σ ≤ _; omega, IB_k2 (gM := fun k => x_step k 0 (upd (fun _ => 0) 1 a1) τ) h0 hj (fun XE rf => rj_step hj rf)⟩
  refine Tm_suc (fun k => by rw [f_X11_step]) ?_
  refine Tm_wr (fun _ => thr 2 (Or.inl rfl)) (fun c => ?_)
  have no : ∀ L' : LV, Tm (fun k => f_X11_step k 1 L' σ) (fun r : RS => (r.1.1 = 0 ∨ r.1.1 = 2 ∨ r.1.1 = 1) ∧ r.2.2.1 + PhC r.2.1 ≤ PhC σ + 2 ∧ r.2.2.2 + PhS r.2.1 ≤ PhS σ + 12 ∧ Tm (fun k => x_step k 0 (upd (fun _ => 0) 1 a1) τ) (fun q => IB (j + 1) r.2.1 q.2 ∧ True)) := fun L' => Tm_suc (fun k => by rw [f_X11_step]) (Tm_some (thr 1 (Or.inr rfl)))
  refine Tm_ite (fun _ => no _) (fun c1 => Tm_ite (fun c2 => ?_) (fun _ => no _))
  obtain ⟨k0, y1, y2, sz, gl, pr, cc, z1, z2, z3, z4, z5, z6, z7, z8⟩ := IC_r ic c
  obtain ⟨m, e1, e2⟩ := n_ofnn (show ¬ a1 < 0 from c1)
  have hm : m ≤ 20000 := by
    have c2' : a1 ≤ nI 20000 := c2
    rw [e1] at c2'
    exact (n_le e2 (by decide)).mp c2'
  have ua : uN a1 = m := by rw [e1, u_n (by omega)]
  refine Tm_suc (fun k => by rw [f_X11_step]) ?_
  refine Tm_oxc (c_advance2 (L := lI lZ 1 a1) z4 z5 z7 (by omega) (show uN (σ.1 1903) + uN a1 ≤ 10240000 by omega)) (fun r z => by rw [z.1.1]) (fun r z => Tm_some ?_)
  obtain ⟨⟨w1, w2, w3, w4⟩, w5⟩ := z
  have w5' : uN (r.2.1.1 1903) ≤ uN (σ.1 1903) + uN a1 := w5
  have fr := HfM_m w3
  have hp : sPr r.2.1 = some (sCur σ) := by
    show r.2.1.2.2.2.2.2.1.2.2.1 = _
    rw [w3.2.2.2.2]
    exact y1
  have hic : IC XE (j + 1) r.2.1 := IC_run ic hj k0 fr hp ⟨sz, gl, pr, cc, z1, z2, z3, w4, by omega⟩
  have v1 : r.2.2.1 + PhC r.2.1 ≤ PhC σ := w2.1
  have v2 : r.2.2.2 + PhS r.2.1 ≤ PhS σ := w2.2
  refine ⟨Or.inl rfl, by show r.2.2.1 + 0 + PhC r.2.1 ≤ _; omega, by show r.2.2.2 + 0 + PhS r.2.1 ≤ _; omega, ?_⟩
  refine Tm_mono (rj_step hj rf) (fun q w => ⟨?_, trivial⟩)
  exact IB_run hic w.1 fr tr e10 e13 (Or.inl w.2) (by rw [w3.1 7511 (by decide), w.2.2.2.2]; exact e11)
theorem hp_back (hj : j < 512) (a1 : Int32) : cPr j (fun x => x = 0 ∨ x = 2 ∨ x = 1) (fun σ k => f_X11_back k 0 (lI lZ 1 a1) σ) (fun τ k => x_back k 0 (upd (fun _ => 0) 1 a1) τ) (fun _ _ => True) := by
  intro σ τ h
  have h0 := h
  obtain ⟨XE, ic, rf, tr, e10, e11, e13⟩ := h
  show Tm (fun k => f_X11_back k 0 (lI lZ 1 a1) σ) _
  have thr : ∀ x : Nat, (x = 2 ∨ x = 1) → (fun r : RS => (r.1.1 = 0 ∨ r.1.1 = 2 ∨ r.1.1 = 1) ∧ r.2.2.1 + PhC r.2.1 ≤ PhC σ + 2 ∧ r.2.2.2 + PhS r.2.1 ≤ PhS σ + 12 ∧ Tm (fun k => x_back k 0 (upd (fun _ => 0) 1 a1) τ) (fun q => IB (j + 1) r.2.1 q.2 ∧ True)) ((x, 0), σ, (1, 6)) := fun x hx => ⟨Or.inr hx, by show 1 + PhC σ ≤ _; omega, by show 6 + PhS σ ≤ _; omega, IB_k2 (gM := fun k => x_back k 0 (upd (fun _ => 0) 1 a1) τ) h0 hj (fun XE rf => rj_back hj rf)⟩
  refine Tm_suc (fun k => by rw [f_X11_back]) ?_
  refine Tm_wr (fun _ => thr 2 (Or.inl rfl)) (fun c => ?_)
  have no : ∀ L' : LV, Tm (fun k => f_X11_back k 1 L' σ) (fun r : RS => (r.1.1 = 0 ∨ r.1.1 = 2 ∨ r.1.1 = 1) ∧ r.2.2.1 + PhC r.2.1 ≤ PhC σ + 2 ∧ r.2.2.2 + PhS r.2.1 ≤ PhS σ + 12 ∧ Tm (fun k => x_back k 0 (upd (fun _ => 0) 1 a1) τ) (fun q => IB (j + 1) r.2.1 q.2 ∧ True)) := fun L' => Tm_suc (fun k => by rw [f_X11_back]) (Tm_some (thr 1 (Or.inr rfl)))
  refine Tm_ite (fun _ => no _) (fun c1 => Tm_ite (fun c2 => ?_) (fun _ => no _))
  obtain ⟨k0, y1, y2, sz, gl, pr, cc, z1, z2, z3, z4, z5, z6, z7, z8⟩ := IC_r ic c
  obtain ⟨m, e1, e2⟩ := n_ofnn (show ¬ a1 < 0 from c1)
  have ua : uN a1 = m := by rw [e1, u_n (by omega)]
  have hm : uN a1 ≤ uN (σ.1 1903) := (u_le (by omega) (by omega)).1 (show a1 ≤ σ.1 1903 from c2)
  have us : uN (σ.1 1903 - a1) = uN (σ.1 1903) - uN a1 := u_sub hm
  refine Tm_suc (fun k => by rw [f_X11_back]) ?_
  refine Tm_ite (fun _ => ?_) (fun _ => ?_)
  · refine Tm_suc (fun k => by rw [f_X11_back]) ?_
    refine Tm_some ⟨Or.inl rfl, by show 0 + PhC σ ≤ _; omega, by show 0 + PhS σ ≤ _; omega, ?_⟩
    exact IB_k2 (gM := fun k => x_back k 0 (upd (fun _ => 0) 1 a1) τ) h0 hj (fun XE rf => rj_back hj rf)
  refine Tm_oxc (c_goBack (L := lI lZ 1 (σ.1 1903 - a1)) z4 y1 z6 (show uN (σ.1 1903 - a1) ≤ uN (σ.1 1903) by omega)) (fun r z => z.1) (fun r1 x1 => ?_)
  obtain ⟨u1, u2, u3, u4, u5⟩ := x1
  have u2' : uN r1.1.2 + uN (r1.2.1.1 1903) ≤ uN (σ.1 1903 - a1) := u2
  refine Tm_oxc (c_advance2 (L := lI lZ 1 r1.1.2) u5 z5 z7 (by omega) (show uN (r1.2.1.1 1903) + uN r1.1.2 ≤ 10240000 by omega)) (fun r z => by rw [z.1.1]) (fun r z => ?_)
  obtain ⟨⟨w1, w2, w3, w4⟩, w5⟩ := z
  have w5' : uN (r.2.1.1 1903) ≤ uN (r1.2.1.1 1903) + uN r1.1.2 := w5
  have fr := HfM_t (HfM_m u4) (HfM_m w3)
  have hp : sPr r.2.1 = some (sCur σ) := by
    show r.2.1.2.2.2.2.2.1.2.2.1 = _
    rw [w3.2.2.2.2, u4.2.2.2.2]
    exact y1
  have hic : IC XE (j + 1) r.2.1 := IC_run ic hj k0 fr hp ⟨sz, gl, pr, cc, z1, z2, z3, w4, by omega⟩
  have v1 := w2.1
  have v2 := w2.2
  have v3 : r1.2.2.1 + PhC r1.2.1 ≤ PhC σ := u3.1
  have v4 : r1.2.2.2 + PhS r1.2.1 ≤ PhS σ := u3.2
  refine Tm_suc (fun k => by rw [f_X11_back]) ?_
  refine Tm_some ⟨Or.inl rfl, by show r1.2.2.1 + (r.2.2.1 + 0) + PhC r.2.1 ≤ _; omega, by show r1.2.2.2 + (r.2.2.2 + 0) + PhS r.2.1 ≤ _; omega, ?_⟩
  refine Tm_mono (rj_back hj rf) (fun q w => ⟨?_, trivial⟩)
  exact IB_run hic w.1 fr tr e10 e13 (Or.inl w.2) (by show r.2.1.1 7511 = 0 ↔ _; rw [w3.1 7511 (by decide), u4.1 7511 (by decide), w.2.2.2.2]; exact e11)
end DZA
end JnS552
section JnS553
/-! The house: a value is shown. -/
section DZB
variable {σ s : CS} {ρ τ ω : MS} {b : Bool} {sz j n n2 V : Nat} {XE : XEt} {L : LV} {c : Ct} {gl : List Gn} {pr : Nat → Nat} {g : Nat → Prop} {l : List Nat} {t : Nat} {h : Int32}
/-- what showing leaves -/
def SwF (σ s : CS) : Prop := ((∀ i, ¬ (i = 404 ∨ i = 1203 ∨ i = 7517 ∨ i = 7518) → s.1 i = σ.1 i) ∧ s.2.1 = σ.2.1) ∧ ((∀ k, ¬ ((5 ≤ k ∧ k ≤ 11) ∨ k = 13 ∨ k = 66 ∨ k = 67) → s.2.2.1 k = σ.2.2.1 k) ∧ (∀ k, ¬ k = 66 → sN s k = sN σ k) ∧ s.2.2.2.1 = σ.2.2.2.1) ∧ s.2.2.2.2.2 = σ.2.2.2.2.2
theorem Ph_66 (e : ∀ k, ¬ k = 66 → sN s k = sN σ k) : PhC s + pC σ 66 10400 = PhC σ + pC s 66 10400 ∧ PhS s + pS σ 66 10400 = PhS σ + pS s 66 10400 := by
  unfold PhC PhS cdC cdS
  have c : ∀ k m, ¬ k = 66 → pC s k m = pC σ k m ∧ pS s k m = pS σ k m := fun k m hk => by
    unfold pC pS
    rw [e k hk]
    exact ⟨rfl, rfl⟩
  rw [(c 3 160000 (by decide)).1, (c 1 5000 (by decide)).1, (c 2 5000 (by decide)).1, (c 20 91000 (by decide)).1, (c 21 44200 (by decide)).1, (c 22 60000 (by decide)).1, (c 26 20000 (by decide)).1, (c 41 21504 (by decide)).1, (c 42 16384 (by decide)).1, (c 43 36864 (by decide)).1, (c 51 36864 (by decide)).1]
  rw [(c 3 160000 (by decide)).2, (c 1 5000 (by decide)).2, (c 2 5000 (by decide)).2, (c 20 91000 (by decide)).2, (c 21 44200 (by decide)).2, (c 22 60000 (by decide)).2, (c 26 20000 (by decide)).2, (c 41 21504 (by decide)).2, (c 42 16384 (by decide)).2, (c 43 36864 (by decide)).2, (c 51 36864 (by decide)).2]
  rw [e 38 (by decide)]
  constructor <;> omega
theorem c_show (hq : HQ g l t σ) (hv : ∀ i, i < 27 → Gv g (σ.2.2.1 67 i)) (hb : BY False σ) (h8 : uN (σ.1 7518) ≤ 2) (hh : Gv g (L.1 1)) : Tm (fun k => f_X11_showValue k 0 L σ) (fun r => r.1.1 = 0 ∧ CoP σ r ∧ SwF σ r.2.1 ∧ (∀ i, i < 27 → Gv g (r.2.1.2.2.1 67 i)) ∧ BY False r.2.1 ∧ uN (r.2.1.1 7517) ≤ sN r.2.1 66 ∧ uN (r.2.1.1 7518) ≤ 2) := by
  have by2 : ∀ k, Bf False (f_X11_showValue k 0 L σ) := fun k => kb_f_X11_showValue k 0 L σ hb
  have main : Tm (fun k => f_X11_showValue k 0 L σ) (fun r => r.1.1 = 0 ∧ CoP σ r ∧ SwF σ r.2.1 ∧ (∀ i, i < 27 → Gv g (r.2.1.2.2.1 67 i)) ∧ uN (r.2.1.1 7517) ≤ sN r.2.1 66 ∧ uN (r.2.1.1 7518) ≤ 2) := by
    refine Tm_suc (fun k => by rw [f_X11_showValue]) ?_
    refine Tm_chk (by decide) (Tm_chk (by decide) (Tm_chk (by decide) ?_))
    show Tm (fun k => f_X11_showValue k 1 (lI L 100 (if (2 : Int32) < σ.1 7518 + 1 then (2 : Int32) else σ.1 7518 + 1)) (uA (uA σ 67 1 (σ.2.2.1 67 0)) 67 0 (L.1 1))) _
    have m8 : uN (if (2 : Int32) < σ.1 7518 + 1 then (2 : Int32) else σ.1 7518 + 1) ≤ 2 := by
      by_cases z : (2 : Int32) < σ.1 7518 + 1
      · rw [if_pos z]; decide
      · rw [if_neg z]
        have u1 : uN (σ.1 7518 + 1) = uN (σ.1 7518) + 1 := u_inc (by omega)
        have z2 : ¬ uN (2 : Int32) < uN (σ.1 7518 + 1) := fun y => z ((u_ltn (by decide) (by omega)).2 y)
        have e2 : uN (2 : Int32) = 2 := rfl
        omega
    generalize (if (2 : Int32) < σ.1 7518 + 1 then (2 : Int32) else σ.1 7518 + 1) = x8 at m8
    generalize hs1 : uA (uA σ 67 1 (σ.2.2.1 67 0)) 67 0 (L.1 1) = s1
    have f1 : s1.1 = σ.1 ∧ s1.2.1 = σ.2.1 ∧ s1.2.2.2 = σ.2.2.2 := by rw [← hs1]; exact ⟨rfl, rfl, rfl⟩
    have f2 : ∀ k, ¬ k = 67 → s1.2.2.1 k = σ.2.2.1 k := fun k hk => by rw [← hs1, uA_k hk, uA_k hk]
    have f3 : ∀ i, i < 27 → Gv g (s1.2.2.1 67 i) := fun i hi => by
      rw [← hs1, uA_r, uA_r]
      by_cases z0 : i = 0
      · rw [z0, upd_same]; exact hh
      · rw [upd_other z0]
        by_cases z1 : i = 1
        · rw [z1, upd_same]; exact hv 0 (by decide)
        · rw [upd_other z1]; exact hv i hi
    clear hs1
    have n1 : sN s1 = sN σ := by show s1.2.2.2.2.1 = _; rw [f1.2.2]
    have b1 : BYr (s1.2.2.1 66) := by rw [f2 66 (by decide)]; exact hb.2.2.1
    have hq1 : HQ g l t (uI s1 7518 x8) := by
      unfold HQ at hq ⊢
      rw [show (uI s1 7518 x8).1 1 = σ.1 1 by rw [uI_o (by decide), f1.1], show (uI s1 7518 x8).2.2.1 3 = σ.2.2.1 3 from f2 3 (by decide), show sN (uI s1 7518 x8) = sN σ from n1]
      exact hq
    refine Tm_suc (fun k => by rw [f_X11_showValue]) ?_
    have bm : BYr ((uI s1 7518 x8).2.2.1 13) := by
      show BYr (s1.2.2.1 13)
      rw [f2 13 (by decide)]; exact hb.1
    have bP : BY False (uI s1 7518 x8) := by
      unfold BY at hb ⊢
      rw [show (uI s1 7518 x8).2.2.1 13 = σ.2.2.1 13 from f2 13 (by decide), show (uI s1 7518 x8).2.2.1 22 = σ.2.2.1 22 from f2 22 (by decide), show (uI s1 7518 x8).2.2.1 66 = σ.2.2.1 66 from f2 66 (by decide), show sN (uI s1 7518 x8) = sN σ from n1, uI_o (i := 1812) (by decide), uI_o (i := 1813) (by decide), uI_o (i := 1907) (by decide), f1.1]
      exact hb
    refine Tm_oxz (Tm_Bf (c_print (L := lI lZ 1 ((lI L 100 x8).1 1)) hq1 hh) (fun k => kb_f_X6_print k 0 _ _ bP)) (fun r z => ⟨z.1.1, z.1.2.1⟩) (fun r1 z1 => ?_)
    obtain ⟨⟨a1, a2, ⟨p1, p2, p3, p4⟩, a4⟩, byr⟩ := z1
    have l13 : uN ((lI L 100 x8).1 100) ≤ 2 := m8
    generalize hs2 : uI r1.2.1 7517 (r1.2.1.1 1203) = s2
    have g1 : ∀ i, ¬ (i = 404 ∨ i = 1203 ∨ i = 7517 ∨ i = 7518) → s2.1 i = σ.1 i := fun i hi => by
      rw [← hs2, uI_o (by omega), p1 i (by omega), uI_o (by omega), f1.1]
    have g17 : uN (s2.1 7517) ≤ 10400 := by rw [← hs2, uI_s]; exact a4
    have g18 : s2.1 7518 = x8 := by
      rw [← hs2, uI_o (by decide), p1 _ (by decide), uI_s]
      rfl
    have g2 : s2.2.1 = σ.2.1 := by
      rw [← hs2]
      show r1.2.1.2.1 = _
      rw [p2]
      exact f1.2.1
    have g3 : ∀ k, ¬ ((5 ≤ k ∧ k ≤ 11) ∨ k = 13) → s2.2.2.1 k = s1.2.2.1 k := fun k hk => by
      rw [← hs2]
      exact p3 k hk
    have g4 : s2.2.2.2 = σ.2.2.2 := by
      rw [← hs2]
      show r1.2.1.2.2.2 = _
      rw [p4]
      exact f1.2.2
    have n2 : sN s2 = sN σ := by show s2.2.2.2.2.1 = _; rw [g4]
    have b13 : BYr (s2.2.2.1 13) := by rw [← hs2]; exact byr.1
    have b66 : BYr (s2.2.2.1 66) := by rw [g3 66 (by omega)]; exact b1
    have n66 : sN σ 66 ≤ 10400 := hb.2.2.2.2.1
    clear hs2
    -- behind the row's widening
    have fin : ∀ (L' : LV) (s3 : CS) (c1 c2 : Nat), s3.1 = s2.1 → s3.2.1 = s2.2.1 → (∀ k, ¬ k = 66 → s3.2.2.1 k = s2.2.2.1 k) → BYr (s3.2.2.1 66) → s3.2.2.2.1 = s2.2.2.2.1 → s3.2.2.2.2.2 = s2.2.2.2.2.2 → (∀ k, ¬ k = 66 → sN s3 k = sN s2 k) → uN (s2.1 7517) ≤ sN s3 66 → sN s3 66 ≤ 10400 → (c1 + pC s3 66 10400 ≤ pC σ 66 10400 ∧ c2 + pS s3 66 10400 ≤ pS σ 66 10400) → Tm (fun k => f_X11_showValue k 2 L' s3) (fun r => r.1.1 = 0 ∧ CoP σ (r.1, r.2.1, (c1 + r.2.2.1, c2 + r.2.2.2)) ∧ SwF σ r.2.1 ∧ (∀ i, i < 27 → Gv g (r.2.1.2.2.1 67 i)) ∧ uN (r.2.1.1 7517) ≤ sN r.2.1 66 ∧ uN (r.2.1.1 7518) ≤ 2) := fun L' s3 c1 c2 e1 e2 e3 e4 e5 e6 e7 e8 e9 e10 => by
      have u7 : s3.1 7517 = s2.1 7517 := by rw [e1]
      have cl : (s3.1 7517).toNatClampNeg = uN (s2.1 7517) := by rw [u7, u_cl (by omega)]
      have ng : ¬ s3.1 7517 < 0 := by rw [u7, u_neg]; omega
      refine Tm_suc (fun k => by rw [f_X11_showValue]) ?_
      refine Tm_chk ⟨by decide, by decide, ng, by rw [cl]; show 0 + uN (s2.1 7517) ≤ 10400; omega, by rw [cl]; show 0 + uN (s2.1 7517) ≤ sN s3 66; omega⟩ ?_
      refine Tm_chk (fun i _ => by rw [e3 13 (by decide)]; exact b13 _) ?_
      refine Tm_suc (fun k => by rw [f_X11_showValue]) ?_
      generalize hs4 : uF s3 66 (va_cpy (s3.2.2.1 13) (s3.2.2.1 66) (0 : Int32).toNatClampNeg (0 : Int32).toNatClampNeg (s3.1 7517).toNatClampNeg) = s4
      have h1 : s4.1 = s3.1 ∧ s4.2.1 = s3.2.1 ∧ s4.2.2.2 = s3.2.2.2 := by rw [← hs4]; exact ⟨rfl, rfl, rfl⟩
      have h2 : ∀ k, ¬ k = 66 → s4.2.2.1 k = s3.2.2.1 k := fun k hk => by rw [← hs4]; exact updG_other hk
      clear hs4
      have n4 : sN s4 = sN s3 := by show s4.2.2.2.2.1 = _; rw [h1.2.2]
      have ph := Ph_66 (σ := σ) (s := s4) (fun k hk => by rw [n4, e7 k hk, n2])
      have pc4 : pC s4 66 10400 = pC s3 66 10400 ∧ pS s4 66 10400 = pS s3 66 10400 := by
        unfold pC pS
        rw [n4]
        exact ⟨rfl, rfl⟩
      refine Tm_some ⟨rfl, ⟨?_, ?_⟩, ⟨⟨fun i hi => by show s4.1 i = _; rw [h1.1, e1]; exact g1 i hi, by show s4.2.1 = _; rw [h1.2.1, e2, g2]⟩, ⟨fun k hk => by show s4.2.2.1 k = _; rw [h2 k (by omega), e3 k (by omega), g3 k (by omega), f2 k (by omega)], fun k hk => by show sN s4 k = _; rw [n4, e7 k hk, n2], by show s4.2.2.2.1 = _; rw [h1.2.2, e5, g4]⟩, by show s4.2.2.2.2.2 = _; rw [h1.2.2, e6, g4]⟩, fun i hi => ?_, ?_, ?_⟩
      · show c1 + 0 + PhC s4 ≤ PhC σ
        omega
      · show c2 + 0 + PhS s4 ≤ PhS σ
        omega
      · show Gv g (s4.2.2.1 67 i)
        rw [h2 67 (by decide), e3 67 (by decide), g3 67 (by omega)]
        exact f3 i hi
      · show uN (s4.1 7517) ≤ sN s4 66
        rw [h1.1, e1, n4]
        exact e8
      · show uN (s4.1 7518) ≤ 2
        rw [h1.1, e1, g18]
        exact m8
    refine Tm_chk ⟨by decide, by decide, by rw [n2]; omega⟩ ?_
    by_cases w : nI (sN s2 66) < s2.1 7517 ∧ sN s2 66 < (10400 : Int32).toNatClampNeg
    · refine Tm_yes w ?_
      refine Tm_chk (fun i _ => b66 i) ?_
      have w2 : sN σ 66 < 10400 := by rw [← n2]; exact w.2
      refine Tm_adR ?_
      have z66 : sN (uZ s2 66 10400) 66 = 10400 := (if_pos rfl : updN (sN s2) 66 10400 66 = 10400)
      refine Tm_mono (fin _ (uZ s2 66 10400) 1 10400 rfl rfl (fun k hk => updG_other hk) ?_ rfl rfl (fun k hk => (if_neg hk : updN (sN s2) 66 10400 k = sN s2 k)) (by rw [z66]; exact g17) (by rw [z66]; exact Nat.le_refl _) ?_) (fun r z => z)
      · show BYr (updG s2.2.2.1 66 _ 66)
        rw [updG_same]
        exact BYr_z b66 _
      · unfold pC pS
        rw [z66, if_pos w2, if_pos w2, if_neg (by decide), if_neg (by decide)]
        exact ⟨by omega, by omega⟩
    · refine Tm_no w ?_
      have le : uN (s2.1 7517) ≤ sN s2 66 := by
        rcases Nat.lt_or_ge (sN s2 66) (uN (s2.1 7517)) with y | y
        · exfalso
          refine w ⟨(u_ltn (by rw [u_n (by omega)]; omega) (by omega)).2 (by rw [u_n (by omega)]; exact y), ?_⟩
          show sN s2 66 < 10400
          omega
        · exact y
      refine Tm_mono (fin _ s2 0 0 rfl rfl (fun _ _ => rfl) b66 rfl rfl (fun _ _ => rfl) le (by rw [n2]; exact n66) ?_) (fun r z => ?_)
      · unfold pC pS
        rw [n2]
        exact ⟨by omega, by omega⟩
      · obtain ⟨z1, z2, z3⟩ := z
        rw [Nat.zero_add, Nat.zero_add] at z2
        exact ⟨z1, z2, z3⟩
  exact Tm_mono (Tm_Bf main by2) (fun r z => ⟨z.1.1, z.1.2.1, z.1.2.2.1, z.1.2.2.2.1, z.2, z.1.2.2.2.2.1, z.1.2.2.2.2.2⟩)
end DZB
end JnS553
section JnS554
/-! The house: other values are kept; seen. -/
section DZC
variable {σ σ' s : CS} {ρ τ ω : MS} {b : Bool} {sz j n n2 V : Nat} {XE : XEt} {L : LV} {c c1 c2 : Ct} {gl : List Gn} {pr : Nat → Nat} {g : Nat → Prop} {l : List Nat} {t B f0 u0 : Nat} {K K2 K3 K4 KB : Nat → Option Int32}
/-- the machine is left alone, but for the values that are kept -/
def PFx (σ σ' : CS) : Prop := ((∀ j, j < 3700 → ¬ (j = 404 ∨ j = 1203) → σ'.1 j = σ.1 j) ∧ ∀ j, j < 3700 → σ'.2.1 j = σ.2.1 j) ∧ (∀ k, k = 1 ∨ k = 2 ∨ k = 3 ∨ (20 ≤ k ∧ k ≤ 27) → σ'.2.2.1 k = σ.2.2.1 k ∧ sN σ' k = sN σ k) ∧ σ'.2.2.2.2.2.2 = σ.2.2.2.2.2.2
theorem PFx_pi (f : PFx σ σ') : sPi σ' = sPi σ := f.2.2
theorem SvR_xx (x : CtX c1 c2) (f : PFx σ σ') {p s : Nat} (hp : p < 9) (h : SvR c1 K σ p s) : SvR c2 K σ' p s := by
  obtain ⟨⟨f1, f1'⟩, f2, f3⟩ := f
  have e : ∀ i, i < 16 → σ'.1 (100 * (28 + p) + i) = σ.1 (100 * (28 + p) + i) := fun i hi => f1 _ (by omega) (by omega)
  have n20 := (f2 20 (by omega)).2
  have n21 := (f2 21 (by omega)).2
  unfold SvR at h ⊢
  rw [e 0 (by omega), e 1 (by omega), e 2 (by omega), e 8 (by omega), e 7 (by omega), e 5 (by omega), e 13 (by omega), e 12 (by omega), e 14 (by omega), e 15 (by omega), n20, n21]
  exact ⟨RUN_m x h.1, h.2.1, h.2.2.1, POK_m x _ _ h.2.2.2⟩
theorem SVB_xx (f : PFx σ σ') (hp : ∀ i, i < 9 → sPi σ i < 9) (h8 : uN (σ.1 2404) ≤ 8) (h : SVB σ) : SVB σ' := by
  have pi := PFx_pi f
  obtain ⟨⟨f1, f1'⟩, f2, f3⟩ := f
  have e : ∀ i, i < 9 → σ'.1 (100 * (28 + sPi σ i) + 3) = σ.1 (100 * (28 + sPi σ i) + 3) := fun i hi => f1 _ (by have := hp i hi; omega) (by omega)
  obtain ⟨h1, h2⟩ := h
  refine ⟨fun i hi => ?_, fun z => ?_⟩
  · rw [f1 2404 (by decide) (by decide)] at hi
    obtain ⟨k1, k2, k3⟩ := h1 i hi
    rw [pi, e i (by omega), f1 2407 (by decide) (by decide)]
    refine ⟨k1, k2, fun k h3 h4 => ?_⟩
    rw [f1 2404 (by decide) (by decide)] at h4
    rw [e k (by omega)]
    exact k3 k h3 h4
  · rw [f1 2405 (by decide) (by decide)] at z
    rw [pi, e 8 (by omega)]
    exact h2 z
theorem SVK_xx (x : CtX c1 c2) (f : PFx σ σ') (h : SVK c1 K σ) : SVK c2 K σ' := by
  have pi := PFx_pi f
  have f0 := f
  obtain ⟨⟨f1, f1'⟩, f2, f3⟩ := f
  obtain ⟨⟨⟨h1, h2⟩, h3⟩, h4, h5, h6, h7⟩ := h
  have e : ∀ i k, i < 9 → k < 16 → σ'.1 (100 * (28 + sPi σ i) + k) = σ.1 (100 * (28 + sPi σ i) + k) := fun i k hi hk => f1 _ (by have := h4 i hi; omega) (by omega)
  have r27 := (f2 27 (by omega)).1
  have e4 := f1 2404 (by decide) (by decide)
  have e3 := f1 2403 (by decide) (by decide)
  have e5 := f1 2405 (by decide) (by decide)
  refine ⟨⟨⟨by rw [e4]; exact h1, by rw [e3]; exact h2⟩, SVB_xx f0 h4 h1 h3⟩, by rw [pi]; exact h4, by rw [pi]; exact h5, fun i hi => ?_, fun z => ?_⟩
  · rw [e4] at hi
    obtain ⟨k1, k2, k3⟩ := h6 i hi
    rw [pi, r27, e i 2 (by omega) (by omega), e i 13 (by omega) (by omega), e3, e4]
    exact ⟨SvR_xx x f0 (h4 i (by omega)) k1, k2, k3⟩
  · rw [e5] at z
    obtain ⟨k1, k2, k3⟩ := h7 z
    rw [pi, r27, e 8 2 (by omega) (by omega), e 8 13 (by omega) (by omega), e3]
    exact ⟨SvR_xx x f0 (h4 8 (by omega)) k1, k2, k3⟩
theorem HQ_xx (f : PFx σ σ') (h : HQ g l t σ) : HQ g l t σ' := by
  obtain ⟨⟨f1, f1'⟩, f2, f3⟩ := f
  unfold HQ at h ⊢
  rw [f1 1 (by decide) (by decide), (f2 3 (by omega)).2, (f2 1 (by omega)).2, (f2 2 (by omega)).2, (f2 3 (by omega)).1]
  exact h
theorem usI_xx (f : PFx σ σ') (h8 : sPi σ 8 < 9) : usI σ' = usI σ := by
  have pi := PFx_pi f
  obtain ⟨⟨f1, f1'⟩, f2, f3⟩ := f
  unfold usI
  rw [pi, f1 2405 (by decide) (by decide), f1 2403 (by decide) (by decide), f1 (100 * (28 + sPi σ 8) + 2) (by omega) (by omega), f1 (100 * (28 + sPi σ 8) + 13) (by omega) (by omega)]
theorem Rwk_67 {M : Nat → Int32} {f : Nat → Int32} (h : ∀ i, i < 27 → Gv g (f i)) : Rwk g M KN f 27 := fun i hi => ⟨Or.inl (h i hi), fun _ => h i hi, fun v e => (by cases e)⟩
theorem VI_xx (f : PFx σ σ') (h67 : ∀ i, i < 27 → Gv g (σ'.2.2.1 67 i)) (h : VI g K K2 K3 K4 σ) : VI g K K2 K3 K4 σ' := by
  have us := usI_xx f h.2.2.2.2.1
  have pi := PFx_pi f
  obtain ⟨⟨f1, f1'⟩, f2, f3⟩ := f
  obtain ⟨v1, v2, v3, v4, v5, v6⟩ := h
  refine ⟨?_, ?_, ?_, Rwk_67 h67, by rw [pi]; exact v5, ?_⟩
  · rw [f1 1902 (by decide) (by decide), (f2 20 (by omega)).2, (f2 3 (by omega)).1, (f2 20 (by omega)).1]; exact v1
  · rw [(f2 3 (by omega)).1, (f2 23 (by omega)).1]; exact v2
  · rw [f1 1913 (by decide) (by decide), (f2 21 (by omega)).2, (f2 3 (by omega)).1, (f2 21 (by omega)).1]; exact v3
  · rw [us, (f2 26 (by omega)).2, (f2 3 (by omega)).1, (f2 26 (by omega)).1]; exact v6
theorem MsG_xx (x : CtX c1 c2) (f : PFx σ σ') (ct : CtL c2 σ') (by0 : BY False σ') (h67 : ∀ i, i < 27 → Gv g (σ'.2.2.1 67 i)) (h : MsG c1 g l t σ) : MsG c2 g l t σ' := by
  obtain ⟨h1, h2, K, K2, K3, K4, mi, rn⟩ := h
  obtain ⟨m1, m2, m3, m4, m5, m6, m7, m8, m9, m10, m11⟩ := mi
  have f0 := f
  obtain ⟨⟨f1, f1'⟩, f2, f3⟩ := f
  refine ⟨by0, by rw [f1 1902 (by decide) (by decide)]; exact h2, K, K2, K3, K4, ⟨HQ_xx f0 m1, VI_xx f0 h67 m2, ct, ?_, SVK_xx x f0 m5, by rw [x.2.1]; exact m6, ?_, ?_, ?_, ?_, ?_⟩, fun z => ?_⟩
  · rw [(f2 20 (by omega)).2, f1 1912 (by decide) (by decide), f1 1913 (by decide) (by decide)]
    exact POK_m x _ _ m4
  · rw [x.2.1, f1 1902 (by decide) (by decide)]; exact m7
  · rw [f1 1903 (by decide) (by decide), f1 1814 (by decide) (by decide)]; exact m8
  · rw [f1 1912 (by decide) (by decide)]; exact m9
  · rw [f1 1914 (by decide) (by decide)]; exact m10
  · rw [f1 1915 (by decide) (by decide)]; exact m11
  · rw [f1 1907 (by decide) (by decide)] at z
    rw [f1 1905 (by decide) (by decide), f1 1900 (by decide) (by decide), f1 1901 (by decide) (by decide), f1 1902 (by decide) (by decide), f1 1908 (by decide) (by decide)]
    exact ⟨(rn z).1, RUN_m x (rn z).2⟩
theorem MsG_v (h : MsG c g l t σ) : HQ g l t σ ∧ ∀ i, i < 27 → Gv g (σ.2.2.1 67 i) := by
  obtain ⟨h1, h2, K, K2, K3, K4, mi, rn⟩ := h
  exact ⟨mi.1, fun i hi => (mi.2.1.2.2.2.1 i hi).2.1 rfl⟩
theorem Mst_G (h : Mst c σ) : ∃ g l t, MsG c g l t σ := by
  obtain ⟨h1, h2, g, l, t, K, K2, K3, K4, mi, rn⟩ := h
  exact ⟨g, l, t, h1, h2, K, K2, K3, K4, mi, rn⟩
theorem Mst_of (h : MsG c g l t σ) : Mst c σ := by
  obtain ⟨h1, h2, K, K2, K3, K4, mi, rn⟩ := h
  exact ⟨h1, h2, g, l, t, K, K2, K3, K4, mi, rn⟩
theorem SwF_x (h : SwF σ s) : PFx σ s := ⟨⟨fun j hj n4 => h.1.1 j (by omega), fun j _ => by rw [h.1.2]⟩, fun k hk => ⟨h.2.1.1 k (by omega), h.2.1.2.1 k (by omega)⟩, by rw [h.2.2]⟩
theorem Hmb_xx (f : PFx σ s) (h67 : ∀ i, i < 27 → Gv g (s.2.2.1 67 i)) (h : Hmb g l t K4 σ) : Hmb g l t K4 s := by
  obtain ⟨h1, ⟨h2, h2', h2''⟩, h3, h4, h5, h6, h7⟩ := h
  have pi := PFx_pi f
  have f0 := f
  obtain ⟨⟨f1, f1'⟩, f2, f3⟩ := f
  exact ⟨HQ_xx f0 h1, ⟨by rw [(f2 20 (by omega)).2]; exact h2, by rw [(f2 21 (by omega)).2]; exact h2', by rw [f1 1814 (by decide) (by decide)]; exact h2''⟩, by rw [(f2 3 (by omega)).1, (f2 23 (by omega)).1]; exact h3, Rwk_67 h67, by rw [(f2 26 (by omega)).2]; exact h5, by rw [pi]; exact h6, by rw [pi]; exact h7⟩
/-- the house over a value shown -/
theorem SwF_M (h : SwF σ s) : (∀ i, 3700 ≤ i → ¬ (i = 7517 ∨ i = 7518) → s.1 i = σ.1 i) ∧ (∀ k, k = 38 ∨ (41 ≤ k ∧ k ≤ 65) ∨ (69 ≤ k ∧ k ≤ 74) → s.2.2.1 k = σ.2.2.1 k ∧ sN s k = sN σ k) ∧ (sCur s = sCur σ ∧ sOt s = sOt σ ∧ sPr s = sPr σ ∧ sKd s = sKd σ) := by
  refine ⟨fun i h1 h2 => h.1.1 i (by omega), fun k hk => ⟨h.2.1.1 k (by omega), h.2.1.2.1 k (by omega)⟩, ?_, ?_, ?_, ?_⟩
  · show s.2.2.2.2.2.1.1 = _; rw [h.2.2]
  · show s.2.2.2.2.2.1.2.1 = _; rw [h.2.2]
  · show s.2.2.2.2.2.1.2.2.1 = _; rw [h.2.2]
  · show s.2.2.2.2.2.1.2.2.2.2 = _; rw [h.2.2]
end DZC
end JnS554
section JnS555
/-! The house over a value shown; seen. -/
section DZD
variable {σ s : CS} {ρ τ ω : MS} {b : Bool} {sz j n n2 V : Nat} {XE : XEt} {L : LV} {c : Ct} {gl : List Gn} {pr : Nat → Nat}
theorem Sw_cM (h : SwF σ s) : cM c b s = cM c b σ := by
  obtain ⟨m1, m2, m3, m4, m5, m6⟩ := SwF_M h
  have p13 := pR_13 b
  have p0 := pR0_c (sKd σ b)
  unfold cM
  show (s.2.2.1 (pR0 (sKd s b)), sN s (pR0 (sKd s b)), (fun u => uN (s.2.2.1 (pR13 b) u)), (fun u => uN (s.2.2.1 (pR14 b) u)), (fun u => uN (s.2.2.1 (pR18 b) u)), tcK c, tcD c) = _
  rw [m6, (m2 (pR0 (sKd σ b)) (by omega)).1, (m2 (pR0 (sKd σ b)) (by omega)).2, (m2 (pR13 b) (by omega)).1, (m2 (pR14 b) (by omega)).1, (m2 (pR18 b) (by omega)).1]
theorem Sw_CdL (h : SwF σ s) (cd : CdL b sz σ) : CdL b sz s := by
  obtain ⟨m1, m2, m3, m4, m5, m6⟩ := SwF_M h
  have p0 := pR0_c (sKd σ b)
  have fc := fP_c b 1
  have en : cdn b s = cdn b σ := by
    show sN s (pR0 (sKd s b)) = sN σ (pR0 (sKd σ b))
    rw [m6, (m2 (pR0 (sKd σ b)) (by omega)).2]
  exact ⟨(m1 _ (by omega) (by omega)).trans cd.1, by rw [en]; exact cd.2.1, by rw [en, (m2 43 (by omega)).2, (m2 51 (by omega)).2]; exact cd.2.2⟩
theorem Sw_pg (h : SwF σ s) (p : PgI gl pr b sz V c σ) : PgI gl pr b sz V c s := by
  obtain ⟨m1, m2, m3, m4, m5, m6⟩ := SwF_M h
  have p13 := pR_13 b
  have p0 := pR0_c (sKd σ b)
  have fc := fP_c b 2
  have fc11 := fP_c b 11
  obtain ⟨E, nu, vg, e0, MD, e, ⟨tb, de⟩, ⟨ut, r18⟩, pg, ⟨eN, cd⟩, ⟨en1, en2, en3⟩, vw⟩ := p
  have rr : ∀ k, 41 ≤ k ∧ k ≤ 65 ∨ 69 ≤ k ∧ k ≤ 74 → s.2.2.1 k = σ.2.2.1 k := fun k hk => (m2 k (by omega)).1
  refine ⟨E, nu, vg, e0, MD, e, ⟨TbR_s tb (m1 _ (by omega) (by omega)) (by rw [h.2.1.2.2]) (by rw [h.2.1.2.2]) (rr _ (by omega)) (rr _ (by omega)) (rr _ (by omega)) (rr _ (by omega)), de⟩, ⟨fun i hi => ?_, by rw [rr _ (by omega)]; exact r18⟩, pg, ⟨eN, fun i hi => ?_⟩, ⟨(m1 _ (by omega) (by omega)).trans en1, en2, en3⟩, fun i hi => by rw [rr 64 (by omega)]; exact vw i hi⟩
  · rw [rr (pR13 b) (by omega), rr (pR14 b) (by omega), rr (pR18 b) (by omega), rr (pR15 b) (by omega)]
    exact ut i hi
  · rw [← cd i hi]
    show s.2.2.1 (pR0 (sKd s b)) i = σ.2.2.1 (pR0 (sKd σ b)) i
    rw [m6, rr _ (by omega)]
/-- values that are kept, and that the house stands over others of them -/
theorem IC_g (h : IC XE j σ) (hj : j < 512) : ∃ (g : Nat → Prop) (l : List Nat) (t : Nat), HQ g l t σ ∧ (∀ i, i < 27 → Gv g (σ.2.2.1 67 i)) ∧ ∀ s, SwF σ s → (∀ i, i < 27 → Gv g (s.2.2.1 67 i)) → BY False s → uN (s.1 7517) ≤ sN s 66 → uN (s.1 7518) ≤ 2 → IC XE (j + 1) s := by
  obtain ⟨n, sz, ⟨t1, t2, t3, t4⟩, ⟨p1, p2, p3, p4, p5, p6⟩, ⟨q1, q2, q3⟩, ⟨m1, m2⟩, pp⟩ := h
  have rest : ∀ s, SwF σ s → Hmx s → BY False s → uN (s.1 7517) ≤ sN s 66 → uN (s.1 7518) ≤ 2 → (∀ gl pr c, XE = some (gl, pr) → ¬ σ.1 7511 = 0 → sPr σ = some (sCur σ) ∧ Mst (cM c (sCur σ) σ) σ ∧ uN (σ.1 1903) ≤ 20000 * j → PgI gl pr (sCur σ) sz (uN (σ.1 7513)) c σ → ∃ c', PgI gl pr (sCur σ) sz (uN (σ.1 7513)) c' σ ∧ Mst (cM c' (sCur σ) s) s) → IC XE (j + 1) s := fun s fr hm hb e7 e8 mm => by
    obtain ⟨k1, k2, k3, k4, k5, k6⟩ := SwF_M fr
    refine ⟨n, sz, ⟨?_, (k1 3701 (by decide) (by decide)).trans t2, by omega, by rw [fr.2.1.2.2]; exact t4⟩, ⟨by rw [k3, k4]; exact p1, fun d => ?_, by rw [(k2 41 (by omega)).2]; exact p3, by rw [(k2 42 (by omega)).2]; exact p4, by rw [k3]; exact Sw_CdL fr p5, by omega⟩, ⟨e7, e8, by rw [k1 7513 (by decide) (by decide)]; exact q3⟩, ⟨hm, hb⟩, ?_⟩
    · unfold tOK at t1 ⊢
      rw [k1 3701 (by decide) (by decide), (k2 38 (by omega)).1, (k2 38 (by omega)).2]
      exact t1
    · have p13 := pR_13 d
      exact ⟨by rw [(k2 _ (by omega)).1]; exact (p2 d).1, by rw [(k2 _ (by omega)).1]; exact (p2 d).2⟩
    · rw [k1 7510 (by decide) (by decide), k1 7511 (by decide) (by decide), k1 7513 (by decide) (by decide), k3]
      rcases pp with z | ⟨z0, gl, pr, c, z2, z3, z4⟩
      · exact Or.inl z
      · refine Or.inr ⟨z0, ?_⟩
        by_cases c11 : σ.1 7511 = 0
        · exact ⟨gl, pr, c, z2, Sw_pg fr z3, fun y => absurd c11 y⟩
        · obtain ⟨c', y1, y2⟩ := mm gl pr c z2 c11 (z4 c11) z3
          have e9 : s.1 1903 = σ.1 1903 := fr.1.1 1903 (by decide)
          exact ⟨gl, pr, c', z2, Sw_pg fr y1, fun _ => ⟨k5.trans (z4 c11).1, y2, by rw [e9]; have := (z4 c11).2.2; omega⟩⟩
  by_cases c11 : σ.1 7511 = 0
  · obtain ⟨g, l, t, K4, hb⟩ := id m1
    refine ⟨g, l, t, hb.1, fun i hi => (hb.2.2.2.1 i hi).2.1 rfl, fun s fr h67 by0 e7 e8 => ?_⟩
    exact rest s fr ⟨g, l, t, K4, Hmb_xx (SwF_x fr) h67 hb⟩ by0 e7 e8 (fun _ _ _ _ y => absurd c11 y)
  · obtain ⟨z0, gl, pr, c, z2, z3, z4⟩ := pp.resolve_left (fun z => c11 z.2.1)
    obtain ⟨y1, y2, y3⟩ := z4 c11
    obtain ⟨g, l, t, mg⟩ := Mst_G y2
    obtain ⟨hq, hv⟩ := MsG_v mg
    refine ⟨g, l, t, hq, hv, fun s fr h67 by0 e7 e8 => ?_⟩
    obtain ⟨k1, k2, k3, k4, k5, k6⟩ := SwF_M fr
    have e : cM c (sCur σ) s = cM c (sCur σ) σ := Sw_cM fr
    have ct : CtL (cM c (sCur σ) s) s := ct_M (k5.trans y1)
    rw [e] at ct
    have mg2 := MsG_xx (c1 := cM c (sCur σ) σ) (c2 := cM c (sCur σ) σ) ⟨rfl, rfl, rfl, fun _ _ z => z⟩ (SwF_x fr) ct by0 h67 mg
    have ms2 := Mst_of mg2
    refine rest s fr (Hmx_of ms2) by0 e7 e8 (fun gl2 pr2 c2 z2' _ _ z3' => ?_)
    rw [z2] at z2'
    cases z2'
    exact ⟨c, z3, by rw [e]; exact ms2⟩
theorem hp_seen (hj : j < 512) (a1 a2 : Int32) : cPr j (fun x => x = 0 ∨ x = 3 ∨ x = 2) (fun σ k => f_X11_seen k 0 (lI (lI lZ 1 a1) 2 a2) σ) (fun τ k => x_seen k 0 (upd (upd (fun _ => 0) 1 a1) 2 a2) τ) (fun _ _ => True) := by
  intro σ τ h
  have h0 := h
  obtain ⟨XE, ic, rf, tr, e10, e11, e13⟩ := h
  have q3 : uN (σ.1 7513) ≤ 8 := by obtain ⟨n, sz, _, _, ⟨_, _, q⟩, _⟩ := ic; exact q
  have h8 : uN (σ.1 7518) ≤ 2 := by obtain ⟨n, sz, _, _, ⟨_, q, _⟩, _⟩ := ic; exact q
  have hb : BY False σ := by obtain ⟨n, sz, _, _, _, ⟨_, q⟩, _⟩ := ic; exact q
  obtain ⟨g, l, t, hq, hv, hc⟩ := IC_g ic hj
  show Tm (fun k => f_X11_seen k 0 (lI (lI lZ 1 a1) 2 a2) σ) _
  have thr : ∀ x : Nat, (x = 3 ∨ x = 2) → (fun r : RS => (r.1.1 = 0 ∨ r.1.1 = 3 ∨ r.1.1 = 2) ∧ r.2.2.1 + PhC r.2.1 ≤ PhC σ + 2 ∧ r.2.2.2 + PhS r.2.1 ≤ PhS σ + 12 ∧ Tm (fun k => x_seen k 0 (upd (upd (fun _ => 0) 1 a1) 2 a2) τ) (fun q => IB (j + 1) r.2.1 q.2 ∧ True)) ((x, 0), σ, (1, 6)) := fun x hx => ⟨Or.inr hx, by show 1 + PhC σ ≤ _; omega, by show 6 + PhS σ ≤ _; omega, IB_k2 (gM := fun k => x_seen k 0 (upd (upd (fun _ => 0) 1 a1) 2 a2) τ) h0 hj (fun XE rf => rj_seen rf)⟩
  have no : ∀ L' : LV, Tm (fun k => f_X11_seen k 1 L' σ) (fun r : RS => (r.1.1 = 0 ∨ r.1.1 = 3 ∨ r.1.1 = 2) ∧ r.2.2.1 + PhC r.2.1 ≤ PhC σ + 2 ∧ r.2.2.2 + PhS r.2.1 ≤ PhS σ + 12 ∧ Tm (fun k => x_seen k 0 (upd (upd (fun _ => 0) 1 a1) 2 a2) τ) (fun q => IB (j + 1) r.2.1 q.2 ∧ True)) := fun L' => Tm_suc (fun k => by rw [f_X11_seen]) (Tm_some (thr 3 (Or.inl rfl)))
  refine Tm_suc (fun k => by rw [f_X11_seen]) ?_
  refine Tm_ite (fun _ => no _) (fun c1 => Tm_ite (fun _ => no _) (fun c2 => Tm_ite (fun _ => no _) (fun c3 => Tm_ite (fun c4 => ?_) (fun _ => no _))))
  obtain ⟨m, e1, e2⟩ := n_ofnn (show ¬ a1 < 0 from c1)
  obtain ⟨w, e3, e4⟩ := n_ofnn (show ¬ a2 < 0 from c3)
  have hw : w ≤ 2 := by
    have c4' : a2 ≤ nI 2 := c4
    rw [e3] at c4'
    exact (n_le e4 (by decide)).mp c4'
  have ua : uN a1 = m := by rw [e1, u_n (by omega)]
  have hm : m < 8 := by
    have c2' : ¬ σ.1 7513 ≤ a1 := c2
    rw [u_le (by omega) (by omega)] at c2'
    omega
  refine Tm_suc (fun k => by rw [f_X11_seen]) ?_
  refine Tm_chk (u_in (show uN a1 < 8 by omega) (by decide)) ?_
  refine Tm_ite (fun _ => Tm_some (thr 2 (Or.inr rfl))) (fun _ => ?_)
  refine Tm_suc (fun k => by rw [f_X11_seen]) ?_
  have e5 : 3 + 3 * a1 + a2 = nI (3 + 3 * m + w) := by
    rw [e1, e3]
    exact (by
      have x1 : (3 : Int32) * nI m = nI (3 * m) := by
        refine u_eq.2 ?_
        have := (by decide : ∀ m : Fin 8, (3 : Int32) * nI m.1 = nI (3 * m.1)) ⟨m, hm⟩
        rw [this]
      rw [x1, show (3 : Int32) + nI (3 * m) = nI (3 + 3 * m) from n_add (p := 3) (by omega), n_add (by omega)])
  have ix : ¬ (3 + 3 * a1 + a2 < 0 ∨ 27 ≤ (3 + 3 * a1 + a2).toNatClampNeg) := by rw [e5]; exact n_in (by omega) (by omega)
  refine Tm_chk ix ?_
  have ev : σ.2.2.1 67 (3 + 3 * a1 + a2).toNatClampNeg = σ.2.2.1 67 (3 + 3 * m + w) := by rw [e5, n_cl (p := 3 + 3 * m + w) (by omega)]
  refine Tm_oxc (c_show (L := lI lZ 1 (σ.2.2.1 67 (3 + 3 * a1 + a2).toNatClampNeg)) hq hv hb h8 (by show Gv g (σ.2.2.1 67 (3 + 3 * a1 + a2).toNatClampNeg); rw [ev]; exact hv _ (by omega))) (fun r z => z.1) (fun r z => Tm_some ?_)
  obtain ⟨z1, z2, z3, z4, z5, z6, z7⟩ := z
  have ic2 := hc r.2.1 z3 z4 z5 z6 z7
  obtain ⟨k1, k2, k3⟩ := SwF_M z3
  have v1 := z2.1
  have v2 := z2.2
  refine ⟨Or.inl rfl, by show r.2.2.1 + 0 + PhC r.2.1 ≤ _; omega, by show r.2.2.2 + 0 + PhS r.2.1 ≤ _; omega, ?_⟩
  refine Tm_mono (rj_seen rf) (fun q y => ⟨?_, trivial⟩)
  show IB (j + 1) r.2.1 q.2
  exact ⟨XE, ic2, y.1, KpT_rel (tRel_s tr (k1 3701 (by decide) (by decide)) (k2 38 (by omega)).1) y.2, by rw [k1 7510 (by decide) (by decide), y.2.2.2.1]; exact e10, by rw [k1 7511 (by decide) (by decide), y.2.2.2.2]; exact e11, by rw [k1 7513 (by decide) (by decide), y.2.2.1]; exact e13⟩
end DZD
end JnS555
section JnS556
/-! Names of a program are names (pure). -/
section DZE
variable {T : Nat → Int32} {n q : Nat}
/-- a name, as it is read somewhere -/
def IdN (l : List Int32) : Prop := ∃ (T : Nat → Int32) (n q : Nat), q ≤ n ∧ tkK T n q = 26 ∧ l = tkS T n q
def NmA (gl : List Gn) : Prop := ∀ x, x ∈ gl → IdN x.1
theorem gvr_id : ∀ (f : Nat) (E : En) (q v : Nat) (b : BT) (r : DV), q ≤ n → GVr T n f E q v b = some (Sum.inr r) → NmA E.1 → NmA r.2.1.1
  | 0, E, q, v, b, r, hq, hG, _ => by cases hG
  | f + 1, E, q, v, b, r, hq, hG, hA => by
    have ih := gvr_id f
    have hN := tkN_b T n q hq
    rw [GVr] at hG
    have step : ∀ (E1 : En), NmA E1.1 → (if tkK T n (tkN T n q) = 12 then pT T n (tkN T n q) (fun q2 => GVr T n f E1 q2 (v + 1) (bTl T n E q v b)) else pW T n 13 (tkN T n q) (fun q2 => some (Sum.inr (q2, E1, v + 1, bTl T n E q v b)))) = some (Sum.inr r) → NmA r.2.1.1 := fun E1 h1 hx => by
      have hN2 := tkN_b T n (tkN T n q) hN.2.1
      by_cases c : tkK T n (tkN T n q) = 12
      · rw [if_pos c] at hx
        rcases pT_any hx with ⟨_, y⟩ | ⟨_, y⟩
        · cases y
        · exact ih _ _ _ _ _ hN2.2.1 y h1
      · rw [if_neg c] at hx
        rcases pW_any hx with ⟨_, y⟩ | ⟨y0, y⟩
        · cases y
        · obtain rfl := Sum.inr.inj (Option.some.inj y)
          exact h1
    by_cases e : E.2.2.2.1 = 0
    · rw [if_pos e] at hG
      rcases gTe_any hG with ⟨_, y⟩ | ⟨y0, y⟩
      · cases y
      · refine step (eTe T n E q v b) (fun x hx => ?_) y
        rcases List.mem_append.mp (show x ∈ E.1 ++ [(tkS T n q, b.2.1, 1, v)] from hx) with z | z
        · exact hA x z
        · rw [List.mem_singleton.mp z]
          exact ⟨T, n, q, hq, y0.1.1, rfl⟩
    · rw [if_neg e] at hG
      rcases gTl_any hG with ⟨_, y⟩ | ⟨y0, y⟩
      · cases y
      · exact step (eTl T n E q v b) hA y
theorem gCal_id {pr : Bool} {E : En} {MD : Nat → Nat → Nat} {c pc v q : Nat} {b : BT} {s : SB} {F : Nat → Int32} {g : PRG} (hq : q ≤ n) (h : gCal T n pr E MD c pc v b s F q = some (Sum.inr g)) (hA : NmA E.1) : NmA g.2.1.1 := by
  have hN := tkN_b T n q hq
  unfold gCal at h
  rcases pT_any h with ⟨_, y⟩ | ⟨_, h⟩
  · cases y
  by_cases c1 : nmC T n E c (tkN T n q)
  · rw [if_pos c1] at h
    have hN1 := tkN_b T n (tkN T n q) hN.2.1
    rcases pT_any h with ⟨_, y⟩ | ⟨_, h⟩
    · cases y
    by_cases c2 : tkK T n (tkN T n (tkN T n q)) = 6
    · rw [if_pos c2] at h
      unfold gCb at h
      have hN2 := tkN_b T n _ hN1.2.1
      rcases pT_any h with ⟨_, y⟩ | ⟨_, h⟩
      · cases y
      rcases pb_any h with ⟨yf, _, y⟩ | ⟨a, ha, h⟩
      · cases y
      obtain ⟨⟨a1, _⟩, _⟩ := gpm_mo _ _ _ _ _ _ _ _ ha hN2.2.1 (by decide) updN_s
      rcases pT_any h with ⟨_, y⟩ | ⟨_, h⟩
      · cases y
      rcases pb_any h with ⟨yf, _, y⟩ | ⟨z, hz, h⟩
      · cases y
      obtain rfl := Sum.inr.inj (Option.some.inj h)
      show NmA a.2.1.1
      rw [a1]
      intro x hx
      rcases List.mem_append.mp (show x ∈ E.1 ++ [(tkS T n (tkN T n q), b.2.1, (if pr = true then 3 else 2), c)] from hx) with z | z
      · exact hA x z
      · rw [List.mem_singleton.mp z]
        exact ⟨T, n, _, hN.2.1, c1.1, rfl⟩
    · rw [if_neg c2] at h; cases h
  · rw [if_neg c1] at h; cases h
theorem gds_id : ∀ (f : Nat) (g h : PRG), GDs T n f g = some (Sum.inr h) → PL n g → NmA g.2.1.1 → NmA h.2.1.1
  | 0, g, h, hG, _, _ => by cases hG
  | f + 1, g, h, hG, hP, hA => by
    have ih := gds_id f
    obtain ⟨p1, p2, p3, p4, p5, p6, p7⟩ := hP
    have hN := tkN_b T n g.1 p1
    rw [GDs] at hG
    by_cases c1 : tkK T n g.1 = 32
    · rw [if_pos c1] at hG
      rcases pb_any hG with ⟨yf, _, y⟩ | ⟨r, hr, hG⟩
      · cases y
      rcases pT_any hr with ⟨_, y⟩ | ⟨_, hr⟩
      · cases y
      obtain ⟨m1, m2, m3, m4, m5, m6, m7, m8, _⟩ := gvr_mo _ _ _ _ _ _ hN.2.1 p5 hr
      exact ih _ _ hG ⟨m2, by show 1 ≤ r.2.2.2.1; omega, by show r.2.2.2.1 ≤ 1 + r.1; omega, by show r.2.2.2.2.1 ≤ r.1; omega, m4, p6, by show r.2.1.2.2.2.1 = 0; rw [m8]; exact p7⟩ (gvr_id _ _ _ _ _ _ hN.2.1 hr hA)
    · rw [if_neg c1] at hG
      by_cases c2 : tkK T n g.1 = 34 ∨ tkK T n g.1 = 33
      · rw [if_pos c2] at hG
        rcases pb_any hG with ⟨yf, _, y⟩ | ⟨r, hr, hG⟩
        · cases y
        exact ih _ _ hG (gCal_mo p1 p5 p2 p6 ⟨p3, p4⟩ hr).2 (gCal_id p1 hr hA)
      · rw [if_neg c2] at hG
        obtain rfl := Sum.inr.inj (Option.some.inj hG)
        exact hA
theorem gprg_id {u p : Nat → Int32} {g : PRG} {t : ST} (h : gPrg T n (g0 T n u p) = some (Sum.inr (g, t))) : NmA g.2.1.1 := by
  unfold gPrg at h
  by_cases c0 : tkK T n (sk T n 0) = 0
  · rw [if_pos c0] at h; cases h
  rw [if_neg c0] at h
  rcases pb_any h with ⟨yf, _, y⟩ | ⟨g1, hg, h⟩
  · cases y
  rcases pb_any h with ⟨yf, _, y⟩ | ⟨t1, ht, h⟩
  · cases y
  by_cases c25 : tkK T n t1.1 = 25
  case neg => rw [if_neg c25] at h; cases h
  rw [if_pos c25] at h
  cases h
  exact gds_id _ _ _ hg (g0_PL T n u p) (fun x hx => absurd hx (List.not_mem_nil))
theorem nm_all : ∀ (d p : Nat), d + p = n → (∀ i, p ≤ i → i < n → isN (T i)) → nameE T n (d + 1) p = n
  | 0, p, h, _ => by
    obtain rfl : p = n := by omega
    rw [nameE_step, if_neg (by rw [rB_out (Nat.le_refl _)]; decide)]
  | d + 1, p, h, a => by
    rw [nameE_step, if_pos (by rw [rB_in (by omega)]; exact a p (Nat.le_refl _) (by omega))]
    exact nm_all d (p + 1) (by omega) (fun i h1 h2 => a i (by omega) h2)
theorem tk_nw (hq : q ≤ n) (h : tkK T n q = 26) : wordI (tkS T n q) = -1 := by
  obtain ⟨hl, c, eE, h16⟩ := tk_nm hq h
  have eS : tkS T n q = seg T q (nameE T n (n + 1) q) := by unfold tkS; rw [eE]
  rw [eS]
  refine Classical.byContradiction (fun w => ?_)
  have e1 : (tokM 0 T n q).1 = 5 := by
    unfold tokM
    rw [if_neg (by omega), if_pos c]
    show (if nameE T n (n + 1) q - q ≤ 16 then (if wordI (seg T q (nameE T n (n + 1) q)) = -1 then (1 : Int32) else 5) else 6) = 5
    rw [if_pos h16, if_neg w]
  unfold tkK tkc at h
  rw [e1, if_neg kv_5.1, if_neg kv_5.2.1, if_neg kv_5.2.2.1, if_neg kv_5.2.2.2.1, if_neg kv_5.2.2.2.2, if_pos rfl] at h
  omega
/-- a text that is a name -/
theorem tk_id {bs : List Int32} (h : IdN bs) (hl : n = bs.length) (hb : ∀ i, i < n → T i = bs.getD i 0) : tkK T n 0 = 26 ∧ tkE T n 0 = n ∧ tkS T n 0 = bs ∧ sk T n 0 = 0 := by
  obtain ⟨T', n', q', hq, hk, rfl⟩ := h
  obtain ⟨l', c, eE, h16⟩ := tk_nm hq hk
  have nw := tk_nw hq hk
  have hle := nameE_le T' n' (n' + 1) q' hq
  have hall := nameE_all T' n' (n' + 1) q'
  have hgt : q' < nameE T' n' (n' + 1) q' := by have := (tkE_b T' n' q' hq).2.2 (by omega); omega
  have eS : tkS T' n' q' = seg T' q' (nameE T' n' (n' + 1) q') := by unfold tkS; rw [eE]
  have el : (tkS T' n' q').length = nameE T' n' (n' + 1) q' - q' := by rw [eS, seg_len]
  have eb : ∀ i, i < n → T i = T' (q' + i) := fun i hi => by rw [hb i hi, eS, seg_at (by omega)]
  have e0 : isL (T 0) := by
    rw [eb 0 (by omega), Nat.add_zero]
    rw [rB_in l'] at c
    exact c
  have eN : nameE T n (n + 1) 0 = n := nm_all n 0 (by omega) (fun i _ hi => by rw [eb i hi]; exact hall _ (by omega) (by omega))
  have sg : seg T 0 n = tkS T' n' q' := (seg_eq (by omega) (fun i hi => by rw [Nat.zero_add, hb i (by omega)])).symm
  have tok : tokM 0 T n 0 = (1, -1, n) := by
    unfold tokM
    rw [if_neg (by omega), if_pos (by rw [rB_in (by omega)]; exact e0), eN, sg, nw, if_pos (by omega), if_pos rfl]
  have t0 : 65 ≤ (T 0).toInt := by rw [isL_int] at e0; omega
  refine ⟨?_, ?_, ?_, ?_⟩
  · unfold tkK; rw [tok]; rfl
  · unfold tkE; rw [tok]
  · unfold tkS tkE; rw [tok]; exact sg
  · show skE T n (n + 1) 0 = 0
    rw [skE_step, if_neg, if_neg]
    · intro z
      have := (noteB_lt z).2.1
      rw [this] at t0
      exact absurd t0 (by decide)
    · intro z
      rcases z.2 with w | w | w | w <;> (rw [w] at t0; exact absurd t0 (by decide))
theorem RfJ_id {XE : XEt} {j : Nat} {τ : MS} {g : List Gn × (Nat → Nat)} (h : RfJ XE j τ) (e : XE = some g) : NmA g.1 := by
  rcases h.2 with z | ⟨_, TX, u, p, nX, g', t, KB, S, _, ⟨z2, z3⟩, _⟩
  · rw [z.2.2] at e; cases e
  · rw [z3] at e
    cases e
    exact gprg_id z2
end DZE
end JnS556
section JnS557
/-! The house: a text is looked at; a variable's value. -/
section DZF
variable {σ s : CS} {ρ τ ω : MS} {b : Bool} {sz j n n2 V : Nat} {XE : XEt} {L : LV} {c : Ct} {gl : List Gn} {pr : Nat → Nat}
/-- the tape is no longer than before -/
theorem IC_tq (h : IC XE j σ) (fr : HfT σ s) (ok : tOK s) (e : s.1 3701 = nI n2) (hn : ∀ n, σ.1 3701 = nI n → n ≤ 20 * j → n2 ≤ n) : IC XE j s := by
  obtain ⟨n, sz, ⟨t1, t2, t3, t4⟩, ⟨p1, p2, p3, p4, p5, p6⟩, ⟨q1, q2, q3⟩, ⟨m1, m2⟩, pp⟩ := h
  have fm := HfT_m fr
  have l := hn n t2 t3
  have ff := fr.1.1
  have sc := fr.2.2.1.1
  refine ⟨n2, sz, ⟨ok, e, by omega, by rw [fr.2.1.2.2]; exact t4⟩, ⟨by rw [sc, fr.2.2.1.2.1]; exact p1, fun d => ?_, by rw [fr.2.1.2.1 41 (by decide)]; exact p3, by rw [fr.2.1.2.1 42 (by decide)]; exact p4, by rw [sc]; exact HfT_CdL fr p5, by omega⟩, ⟨by rw [ff 7517 (by decide), fr.2.1.2.1 66 (by decide)]; exact q1, by rw [ff 7518 (by decide)]; exact q2, by rw [ff 7513 (by decide)]; exact q3⟩, ⟨Hmx_m fm m1, BY_m fm m2⟩, ?_⟩
  · have p13 := pR_13 d
    exact ⟨by rw [fr.2.1.1 _ (by omega)]; exact (p2 d).1, by rw [fr.2.1.1 _ (by omega)]; exact (p2 d).2⟩
  · rw [ff 7510 (by decide), ff 7511 (by decide), ff 7513 (by decide), sc]
    refine pp.imp id (fun ⟨k0, gl, pr, c, k2, k3, k4⟩ => ⟨k0, gl, pr, c, k2, HfT_pg fr k3, fun z => ?_⟩)
    obtain ⟨y1, y2, y3⟩ := k4 z
    have e9 : s.1 1903 = σ.1 1903 := ff 1903 (by decide)
    exact ⟨fr.2.2.1.2.2.1.trans y1, Mst_m (HfT_ct fr) fm (ct_M (fr.2.2.1.2.2.1.trans y1)) y2, by rw [e9]; exact y3⟩
theorem HfT_tr {s2 : CS} (a : HfT σ s) (d : HfT s s2) : HfT σ s2 := ⟨⟨fun i hi => (d.1.1 i hi).trans (a.1.1 i hi), fun i hi => (d.1.2 i hi).trans (a.1.2 i hi)⟩, ⟨fun k hk => (d.2.1.1 k hk).trans (a.2.1.1 k hk), fun k hk => (d.2.1.2.1 k hk).trans (a.2.1.2.1 k hk), d.2.1.2.2.trans a.2.1.2.2⟩, ⟨d.2.2.1.1.trans a.2.2.1.1, d.2.2.1.2.1.trans a.2.2.1.2.1, d.2.2.1.2.2.1.trans a.2.2.1.2.2.1, d.2.2.1.2.2.2.trans a.2.2.1.2.2.2⟩, d.2.2.2.trans a.2.2.2⟩
theorem HfT_i {i : Nat} {x : Int32} (hi : (3701 ≤ i ∧ i ≤ 3704) ∨ (4003 ≤ i ∧ i ≤ 4020) ∨ i = 7512 ∨ i = 7519) : HfT σ (uI σ i x) := ⟨⟨fun k hk => uI_o (by omega), fun _ _ => rfl⟩, ⟨fun _ _ => rfl, fun _ _ => rfl, rfl⟩, ⟨rfl, rfl, rfl, rfl⟩, rfl⟩
theorem HfT_sA {kd st en : Int32} {hi lo : Int64} : HfT σ (sA σ kd st en hi lo) := by
  refine ⟨⟨fun i hi => ?_, fun i hi => ?_⟩, ⟨fun _ _ => rfl, fun _ _ => rfl, rfl⟩, ⟨rfl, rfl, rfl, rfl⟩, rfl⟩
  · show upd (upd (upd σ.1 3702 kd) 3703 st) 3704 en i = _
    rw [upd_other (by omega), upd_other (by omega), upd_other (by omega)]
  · show updW (updW σ.2.1 3705 _) 3706 lo i = _
    rw [updW_other (by omega), updW_other (by omega)]
theorem HfT_rw {r : RS} (h : cRew σ n r) : HfT σ r.2.1 := by
  obtain ⟨_, row, m, e, _⟩ := h
  rw [e]
  exact HfT_tr HfT_tC (HfT_i (Or.inl ⟨by decide, by decide⟩))
theorem tOK_cN (h : cN s n) : tOK s := by
  obtain ⟨h1, h2, h3, h4, h5, _⟩ := h
  unfold tOK
  rw [h1, n_int (by omega)]
  exact ⟨by omega, by omega, by omega, h4, h5⟩
theorem tRel_q (h : cN s n) (hs : sameT (τ.2.2 3) (s.2.2.1 38) n) (e : τ.1 4 = nI n) : tRel s τ := by
  refine ⟨h.1.trans e.symm, fun i hi => ?_⟩
  rw [h.1, n_int (by have := h.2.1; omega)] at hi
  exact hs.1 i (by omega)
/-- the cost of a text looked at -/
theorem rw_ph {r : RS} (h : cRew σ n r) : r.2.2.1 + PhC r.2.1 ≤ PhC σ ∧ r.2.2.2 + PhS r.2.1 ≤ PhS σ := by
  have fr := HfT_rw h
  obtain ⟨_, row, m, e, _, _, _, _, _, _, _, h10, h11⟩ := h
  have kM : sN r.2.1 38 = m := by
    rw [e]
    exact (tC_n : sN (tC σ (σ.1 3701) row m) 38 = m)
  have ph := Ph_38 (σ := σ) (σ' := r.2.1) (fun k hk => fr.2.1.2.1 k hk)
  rw [kM] at ph
  omega
/-- as IC_g, and the variables' values -/
theorem IC_g2 (h : IC XE j σ) (hj : j < 512) (h11 : ¬ σ.1 7511 = 0) : ∃ (g : Nat → Prop) (l : List Nat) (t : Nat), HQ g l t σ ∧ (∀ i, i < 27 → Gv g (σ.2.2.1 67 i)) ∧ (∀ gl pr x, XE = some (gl, pr) → x ∈ gl → x.2.2.1 = 1 → (4 + x.2.2.2 < sN σ 20 ∧ sN σ 20 ≤ 91000) ∧ Gv g (σ.2.2.1 20 (4 + x.2.2.2))) ∧ ∀ s, SwF σ s → (∀ i, i < 27 → Gv g (s.2.2.1 67 i)) → BY False s → uN (s.1 7517) ≤ sN s 66 → uN (s.1 7518) ≤ 2 → IC XE (j + 1) s := by
  obtain ⟨n, sz, ⟨t1, t2, t3, t4⟩, ⟨p1, p2, p3, p4, p5, p6⟩, ⟨q1, q2, q3⟩, ⟨m1, m2⟩, pp⟩ := h
  obtain ⟨z0, gl, pr, c, z2, z3, z4⟩ := pp.resolve_left (fun z => h11 z.2.1)
  obtain ⟨y1, y2, y3⟩ := z4 h11
  obtain ⟨g, l, t, mg⟩ := Mst_G y2
  obtain ⟨hq, hv⟩ := MsG_v mg
  refine ⟨g, l, t, hq, hv, fun gl' pr' x ex hx k1 => ?_, fun s fr h67 by0 e7 e8 => ?_⟩
  · rw [z2] at ex
    cases ex
    obtain ⟨E, nu, vg, e0, MD, ⟨e1, e2⟩, ⟨tb, de⟩, ⟨ut, r18⟩, _⟩ := z3
    have vg60 := de.2.1.2.1
    have hs : x.2.2.2 < vg := by
      rw [← e1] at hx
      rcases (de.2.2.2.1 x hx).2 with z | z
      · exact z.2
      · omega
    have f0 : tcF (cM c (sCur σ) σ) 0 = vg := by show uN (σ.2.2.1 (pR18 (sCur σ)) 0) = vg; rw [r18, u_n (by omega)]
    obtain ⟨_, _, K, K2, K3, K4, mi, _⟩ := mg
    obtain ⟨_, ⟨⟨v1, v2, v3⟩, _⟩, _, _, _, kk, ⟨b1, b2⟩, _⟩ := mi
    rw [f0] at kk b2
    refine ⟨⟨by omega, v2.2⟩, ((v3 (4 + x.2.2.2) (by omega)).2.1 ?_)⟩
    rw [kk (4 + x.2.2.2) (by omega)]
    unfold KH
    exact if_neg (by omega)
  · obtain ⟨k1, k2, k3, k4, k5, k6⟩ := SwF_M fr
    have e : cM c (sCur σ) s = cM c (sCur σ) σ := Sw_cM fr
    have ct : CtL (cM c (sCur σ) s) s := ct_M (k5.trans y1)
    rw [e] at ct
    have mg2 := MsG_xx (c1 := cM c (sCur σ) σ) (c2 := cM c (sCur σ) σ) ⟨rfl, rfl, rfl, fun _ _ z => z⟩ (SwF_x fr) ct by0 h67 mg
    have ms2 := Mst_of mg2
    refine ⟨n, sz, ⟨?_, (k1 3701 (by decide) (by decide)).trans t2, by omega, by rw [fr.2.1.2.2]; exact t4⟩, ⟨by rw [k3, k4]; exact p1, fun d => ?_, by rw [(k2 41 (by omega)).2]; exact p3, by rw [(k2 42 (by omega)).2]; exact p4, by rw [k3]; exact Sw_CdL fr p5, by omega⟩, ⟨e7, e8, by rw [k1 7513 (by decide) (by decide)]; exact q3⟩, ⟨Hmx_of ms2, by0⟩, ?_⟩
    · unfold tOK at t1 ⊢
      rw [k1 3701 (by decide) (by decide), (k2 38 (by omega)).1, (k2 38 (by omega)).2]
      exact t1
    · have p13 := pR_13 d
      exact ⟨by rw [(k2 _ (by omega)).1]; exact (p2 d).1, by rw [(k2 _ (by omega)).1]; exact (p2 d).2⟩
    · rw [k1 7510 (by decide) (by decide), k1 7511 (by decide) (by decide), k1 7513 (by decide) (by decide), k3]
      have e9 : s.1 1903 = σ.1 1903 := fr.1.1 1903 (by decide)
      exact Or.inr ⟨z0, gl, pr, c, z2, Sw_pg fr z3, fun _ => ⟨k5.trans y1, by rw [e]; exact ms2, by rw [e9]; omega⟩⟩
/-- a name of the program, as the reference finds it -/
theorem mNm_of {x : Gn} (h : PGn gl τ) (hx : x ∈ gl) : mNm τ 0 n x.2.1 x.1.length ↔ (n = x.1.length ∧ ∀ i, i < n → τ.2.2 3 i = x.1.getD i 0) := by
  obtain ⟨bt, pb, _, _, gk⟩ := h
  obtain ⟨k, hk⟩ := List.mem_iff_getElem?.1 hx
  obtain ⟨_, _, _, _, q5, _, _, _, q9⟩ := gk k x hk
  unfold mNm
  constructor
  · rintro ⟨z1, z2⟩
    refine ⟨z1, fun i hi => ?_⟩
    have z3 := z2 i (by omega)
    rw [Nat.zero_add, pb.2.2.2.2 _ (by omega), q9 i (by omega)] at z3
    exact z3.symm
  · rintro ⟨z1, z2⟩
    refine ⟨z1, fun i hi => ?_⟩
    rw [Nat.zero_add, pb.2.2.2.2 _ (by omega), q9 i (by omega), z2 i (by omega)]
end DZF
end JnS557
section JnS558
/-! The house: value, on both sides. -/
section DZG
variable {σ s : CS} {ρ τ ω : MS} {b : Bool} {sz j n n2 V i : Nat} {XE : XEt} {L : LV} {c : Ct} {gl : List Gn} {pr : Nat → Nat} {E : En}
/-- the text is the name of a variable -/
def VaN (gl : List Gn) (T : Nat → Int32) (n : Nat) : Prop := ∃ x, x ∈ gl ∧ x.2.2.1 = 1 ∧ n = x.1.length ∧ ∀ i, i < n → T i = x.1.getD i 0
def VlQ (j : Nat) (σ : CS) (τ : MS) (r : RS) : Prop := (r.1.1 = 0 ∨ r.1.1 = 2 ∨ r.1.1 = 1) ∧ r.2.2.1 + PhC r.2.1 ≤ PhC σ + 2 ∧ r.2.2.2 + PhS r.2.1 ≤ PhS σ + 12 ∧ Tm (fun k => x_value k 0 (fun _ => 0) τ) (fun q => IB (j + 1) r.2.1 q.2 ∧ True)
theorem tbE_at (h0 : E.2.1 = []) (hi : i < (tbE 0 E).length) : ∃ x, E.1[i]? = some x ∧ (tbE 0 E).getD i e0E = gEn x := by
  have e : tbE 0 E = E.1.map gEn := by
    unfold tbE
    rw [h0]
    exact List.append_nil _
  rw [e] at hi ⊢
  rw [List.length_map] at hi
  refine ⟨E.1[i], List.getElem?_eq_getElem hi, ?_⟩
  rw [List.getD_eq_getElem?_getD, List.getElem?_map, List.getElem?_eq_getElem hi]
  rfl
theorem tbE_of {x : Gn} (h0 : E.2.1 = []) (hx : x ∈ E.1) : ∃ i, i < (tbE 0 E).length ∧ (tbE 0 E).getD i e0E = gEn x := by
  have e : tbE 0 E = E.1.map gEn := by
    unfold tbE
    rw [h0]
    exact List.append_nil _
  obtain ⟨i, hi, ei⟩ := List.mem_iff_getElem.1 hx
  refine ⟨i, by rw [e, List.length_map]; exact hi, ?_⟩
  rw [e, List.getD_eq_getElem?_getD, List.getElem?_map, List.getElem?_eq_getElem hi, ei]
  rfl
theorem pw_ij2 {l : List Gn} (h : l.Pairwise (fun a b => ¬ a.1 = b.1)) {x y : Gn} (hx : x ∈ l) (hy : y ∈ l) (e : x.1 = y.1) : x = y := by
  obtain ⟨i, hi, ei⟩ := List.mem_iff_getElem.1 hx
  obtain ⟨k, hk, ek⟩ := List.mem_iff_getElem.1 hy
  have pw := List.pairwise_iff_getElem.1 h
  rcases Nat.lt_trichotomy i k with z | z | z
  · have := pw i k hi hk z
    rw [ei, ek] at this
    exact absurd e this
  · subst z
    rw [← ei, ← ek]
  · have := pw k i hk hi z
    rw [ei, ek] at this
    exact absurd e.symm this
theorem hp_value (hj : j < 512) : cPr j (fun x => x = 0 ∨ x = 2 ∨ x = 1) (fun σ k => f_X11_value k 0 lZ σ) (fun τ k => x_value k 0 (fun _ => 0) τ) (fun _ _ => True) := by
  intro σ τ h
  have h0 := h
  obtain ⟨XE, ic, rf, tr, e10, e11, e13⟩ := h
  have ic0 := ic
  obtain ⟨n, sz, ⟨t1, t2, t3, t4⟩, _, _, _, pp⟩ := ic
  show Tm (fun k => f_X11_value k 0 lZ σ) (VlQ j σ τ)
  refine Tm_suc (fun k => by rw [f_X11_value]) ?_
  refine Tm_wr (fun z => ?_) (fun nz => ?_)
  · exact ⟨Or.inr (Or.inl rfl), by show 1 + PhC σ ≤ _; omega, by show 6 + PhS σ ≤ _; omega, IB_k2 (gM := fun k => x_value k 0 (fun _ => 0) τ) h0 hj (fun XE rf => Tm_mono (s_valueN (e11.1 z)) (fun r hr => by rw [hr]; exact ⟨RfJ_2 rf, KpT_2⟩))⟩
  have n112 : ¬ τ.1 112 = 0 := fun z => nz (e11.2 z)
  obtain ⟨k0, gl, pr, c, hX, pg, k4⟩ := pp.resolve_left (fun z => nz z.2.1)
  have ida : NmA gl := RfJ_id rf hX
  have e4 : τ.1 4 = nI n := tr.1.symm.trans t2
  obtain ⟨E, nu, vg, e0, MD, ⟨e1, e2⟩, ⟨tb, de⟩, _⟩ := id pg
  subst e1
  have nl : E.2.1 = [] := (de.1.2.1 rfl).1
  have ref : Tm (fun k => x_value k 0 (fun _ => 0) τ) (fun q => RfJ XE (j + 1) q.2 ∧ (q.2.1 73 = τ.1 73 ∧ q.2.1 111 = τ.1 111 ∧ q.2.1 112 = τ.1 112) ∧ ((KpT τ q.2 ∧ ¬ VaN E.1 (τ.2.2 3) n) ∨ (q.2.1 4 = 0 ∧ VaN E.1 (τ.2.2 3) n))) := by
    refine Tm_mono (rj_value rf) (fun q w => ?_)
    obtain ⟨w1, w2, w3⟩ := w
    rcases w3 with ⟨z, _⟩ | ⟨n', g, tn, eg, pgn, w4⟩
    · exact absurd z n112
    · obtain rfl : n' = n := nI_inj (tn.1.symm.trans e4) (by have := tn.2; omega) (by omega)
      rw [hX] at eg
      cases eg
      refine ⟨w1, w2, w4.imp (fun z => ⟨z.1, fun y => ?_⟩) (fun z => ⟨z.1, ?_⟩)⟩
      · obtain ⟨x, x1, x2, x3⟩ := y
        exact z.2 ⟨x, x1, x2, (mNm_of pgn x1).2 x3⟩
      · obtain ⟨_, x, x1, x2, x3⟩ := z
        exact ⟨x, x1, x2, (mNm_of pgn x1).1 x3⟩
  have no : ∀ r : RS, r.1.1 = 1 → HfT σ r.2.1 → cN r.2.1 n → sameT (τ.2.2 3) (r.2.1.2.2.1 38) n → r.2.2.1 + PhC r.2.1 ≤ PhC σ + 2 → r.2.2.2 + PhS r.2.1 ≤ PhS σ + 12 → ¬ VaN E.1 (τ.2.2 3) n → VlQ j σ τ r := fun r r1 fr cn sm c1 c2 na => by
    refine ⟨Or.inr (Or.inr r1), c1, c2, Tm_mono ref (fun q w => ⟨?_, trivial⟩)⟩
    obtain ⟨w1, ⟨w2, w3, w4⟩, w5⟩ := w
    have icq : IC XE j r.2.1 := IC_tq ic0 fr (tOK_cN cn) cn.1 (fun n' e' l' => by have := nI_inj (t2.symm.trans e') (by omega) (by omega); omega)
    rcases w5 with ⟨k, _⟩ | ⟨_, a⟩
    · exact ⟨XE, IC_s icq hj, w1, KpT_rel (tRel_q cn sm e4) k, by rw [fr.1.1 7510 (by decide), w3]; exact e10, by rw [fr.1.1 7511 (by decide), w4]; exact e11, by rw [fr.1.1 7513 (by decide), w2]; exact e13⟩
    · exact absurd a na
  have idx : VaN E.1 (τ.2.2 3) n → tkK (τ.2.2 3) n 0 = 26 ∧ tkE (τ.2.2 3) n 0 = n ∧ sk (τ.2.2 3) n 0 = 0 ∧ ∃ x, x ∈ E.1 ∧ x.2.2.1 = 1 ∧ tkS (τ.2.2 3) n 0 = x.1 := fun a => by
    obtain ⟨x, x1, x2, x3, x4⟩ := a
    obtain ⟨i1, i2, i3, i4⟩ := tk_id (ida x x1) x3 x4
    exact ⟨i1, i2, i4, x, x1, x2, i3⟩
  refine Tm_oxc (s_rewind t1 t2 (by omega) lZ) (fun r z => by rw [z.1]) (fun r1 rw1 => ?_)
  have fr1 := HfT_rw rw1
  have cn1 := rew_cN t2 (by omega) rw1
  have sm1 := rew_same t2 (by omega) tr rw1
  have ph1 := rw_ph rw1
  clear rw1
  have adv := c_advP (T := τ.2.2 3) (L := lZ) cn1.1 sm1 (by rw [fr1.2.1.2.2]; exact t4) cn1.2 (Nat.zero_le n)
  refine Tm_ox adv (fun r3 w nz3 => ?_) (fun r3 w e03 => ?_)
  · have k0 : tkK (τ.2.2 3) n (sk (τ.2.2 3) n 0) = 0 := by
      by_cases k0 : tkK (τ.2.2 3) n (sk (τ.2.2 3) n 0) = 0
      · exact k0
      · exact absurd (by rw [(w.2.1 k0).1]) nz3
    obtain ⟨w1, w2⟩ := w.1 k0
    obtain ⟨kd, st, en, hi, lo, es⟩ := w.2.2
    have ph := Ph_s (σ := r1.2.1) (σ' := r3.2.1) (by rw [es]; rfl)
    refine no _ (by show r3.1.1 = 1; rw [w1]) (HfT_tr fr1 (by show HfT r1.2.1 r3.2.1; rw [es]; exact HfT_sA)) (by show cN r3.2.1 n; rw [es]; exact cN_sA cn1.1) (by show sameT _ (r3.2.1.2.2.1 38) n; rw [es]; exact sm1) ?_ ?_ (fun a => ?_)
    · show r1.2.2.1 + r3.2.2.1 + PhC r3.2.1 ≤ _
      rw [w2.1]; show r1.2.2.1 + 1 + PhC r3.2.1 ≤ _; omega
    · show r1.2.2.2 + r3.2.2.2 + PhS r3.2.1 ≤ _
      rw [w2.1]; show r1.2.2.2 + 6 + PhS r3.2.1 ≤ _; omega
    · obtain ⟨i1, i2, i4, _⟩ := idx a
      rw [i4, i1] at k0
      exact absurd k0 (by decide)
  have k0' : ¬ tkK (τ.2.2 3) n (sk (τ.2.2 3) n 0) = 0 := fun k0 => by
    rw [(w.1 k0).1] at e03
    exact absurd e03 (by decide)
  obtain ⟨w1, w2, lx⟩ := w.2.1 k0'
  obtain ⟨kd, st, en, hi, lo, es⟩ := w.2.2
  have fr3 : HfT σ r3.2.1 := HfT_tr fr1 (by rw [es]; exact HfT_sA)
  have ph3 := Ph_s (σ := r1.2.1) (σ' := r3.2.1) (by rw [es]; rfl)
  have w21 : r3.2.2.1 = 0 ∧ r3.2.2.2 = 0 := by rw [w2]; exact ⟨rfl, rfl⟩
  clear es w adv w2
  obtain ⟨l1, l2, l3, l4, l5, l6, l7, l8, l9⟩ := lx
  -- refused
  have fail : ¬ VaN E.1 (τ.2.2 3) n → VlQ j σ τ ((1, 0), r3.2.1, (r1.2.2.1 + (r3.2.2.1 + 1), r1.2.2.2 + (r3.2.2.2 + 6))) := fun na => no _ rfl fr3 l1 l2 (by show r1.2.2.1 + (r3.2.2.1 + 1) + PhC r3.2.1 ≤ _; omega) (by show r1.2.2.2 + (r3.2.2.2 + 6) + PhS r3.2.1 ≤ _; omega) na
  have b5 : ∀ L' : LV, ¬ VaN E.1 (τ.2.2 3) n → Tm (fun k => f_X11_value k 5 L' r3.2.1) (fun q => VlQ j σ τ (q.1, q.2.1, (r1.2.2.1 + (r3.2.2.1 + q.2.2.1), r1.2.2.2 + (r3.2.2.2 + q.2.2.2)))) := fun L' na => Tm_suc (fun k => by rw [f_X11_value]) (Tm_some (fail na))
  have b1 : ∀ L' : LV, ¬ VaN E.1 (τ.2.2 3) n → Tm (fun k => f_X11_value k 1 L' r3.2.1) (fun q => VlQ j σ τ (q.1, q.2.1, (r1.2.2.1 + (r3.2.2.1 + q.2.2.1), r1.2.2.2 + (r3.2.2.2 + q.2.2.2)))) := fun L' na => by
    refine Tm_suc (fun k => by rw [f_X11_value]) ?_
    refine Tm_suc (fun k => by rw [f_X11_value]) ?_
    refine Tm_yes lI_same ?_
    refine Tm_suc (fun k => by rw [f_X11_value]) ?_
    refine Tm_suc (fun k => by rw [f_X11_value]) ?_
    refine Tm_yes lI_same ?_
    exact b5 _ na
  refine Tm_ite (fun c2 => ?_) (fun c2 => b1 _ (fun a => ?_))
  case refine_2 =>
    obtain ⟨i1, i2, i4, _⟩ := idx a
    rw [i4, i1] at l6
    exact c2 l6
  refine Tm_ite (fun c3 => ?_) (fun c3 => b1 _ (fun a => ?_))
  case refine_2 =>
    obtain ⟨i1, i2, i4, _⟩ := idx a
    rw [i4] at l7
    exact c3 l7
  refine Tm_ite (fun c4 => ?_) (fun c4 => b1 _ (fun a => ?_))
  case refine_2 =>
    obtain ⟨i1, i2, i4, _⟩ := idx a
    rw [i4, i2] at l8
    exact c4 (l8.trans l1.1.symm)
  have q0 : sk (τ.2.2 3) n 0 = 0 := nI_inj (l7.symm.trans c3) (by omega) (by decide)
  rw [q0] at l5 l6 l8 l9
  have kk : tkK (τ.2.2 3) n 0 = 26 := (ck_e (tk_v (Nat.zero_le n) l5) (by omega)).1 (l6.symm.trans c2)
  have te := tkE_b (τ.2.2 3) n 0 (Nat.zero_le n)
  have en : tkE (τ.2.2 3) n 0 = n := nI_inj (l8.symm.trans (c4.trans l1.1)) (by omega) (by omega)
  obtain ⟨⟨ky1, ky2⟩, ky3⟩ := l9 kk
  have sc : sCur r3.2.1 = sCur σ := fr3.2.2.1.1
  have tb3 : TbR (sCur σ) (tbE 0 E) r3.2.1 := by
    obtain ⟨h1, h2, h3⟩ := HfT_cd fr3 (sCur σ)
    have p13 := pR_13 (sCur σ)
    exact TbR_s tb (h3 11 (by decide)) (by rw [fr3.2.1.2.2]) (by rw [fr3.2.1.2.2]) (fr3.2.1.1 _ (by omega)) (fr3.2.1.1 _ (by omega)) (fr3.2.1.1 _ (by omega)) (fr3.2.1.1 _ (by omega))
  refine Tm_suc (fun k => by rw [f_X11_value]) ?_
  refine Tm_no (by show ¬ (lI lZ 100 1).1 100 = 0; rw [lI_same]; decide) ?_
  rw [sc]
  refine Tm_op (c_found (tb := tbE 0 E) (bs := tkS (τ.2.2 3) n 0) (L := lJ (lJ (lB lZ 0 (sCur σ)) 1 (r3.2.1.2.1 3705)) 3 (r3.2.1.2.1 3706)) tb3 rfl ky3 ky1 ky2) (fun r4 z => ?_)
  obtain ⟨z1, z2⟩ := z
  rw [z1]
  rcases z2 with ⟨i, ei, li⟩ | ⟨em, ln⟩
  case inr =>
    refine Tm_suc (fun k => by rw [f_X11_value]) ?_
    refine Tm_yes (lI_same.trans em) ?_
    refine b5 _ (fun a => ?_)
    obtain ⟨_, _, _, x, x1, x2, x3⟩ := idx a
    obtain ⟨i, hi, e⟩ := tbE_of nl x1
    exact ln i hi ⟨by rw [e, x3]; rfl, by rw [e]; rfl⟩
  have ti := tb3.2.2 i li.1
  have i256 : i < 256 := Nat.lt_of_lt_of_le li.1 tb3.2.1
  obtain ⟨x, gx, ex⟩ := tbE_at nl li.1
  rw [ex] at ti
  have mx : x ∈ E.1 := List.mem_of_getElem? gx
  have nx : x.1 = tkS (τ.2.2 3) n 0 := by
    have := li.2.1.1
    rw [ex] at this
    exact this
  obtain ⟨_, _, _, r7, _, r9, _⟩ := ti
  have r7' : r3.2.1.2.2.1 (pR7 (sCur σ)) i = nI (x.2.2.1 - 1) := r7
  have r9' : r3.2.1.2.2.1 (pR9 (sCur σ)) i = nI (if x.2.2.1 = 1 then x.2.2.2 else x.2.2.2 + 1) := r9
  have dx := (de.2.2.2.1 x mx).2
  refine Tm_suc (fun k => by rw [f_X11_value]) ?_
  rw [lI_same, ei]
  refine Tm_no (fun e => absurd (u_eq.1 e) (by rw [u_n (by omega)]; show ¬ i = 4294967295; omega)) ?_
  refine Tm_chk (n_in (by omega) i256) ?_
  rw [n_cl (p := i) (by omega), sc, r7']
  refine Tm_ite (fun c7 => ?_) (fun c7 => b5 _ (fun a => ?_))
  case refine_2 =>
    obtain ⟨_, _, _, y, y1, y2, y3⟩ := idx a
    have := pw_ij2 de.2.2.1 mx y1 (nx.trans y3)
    rw [this, y2] at c7
    exact c7 rfl
  have k1 : x.2.2.1 = 1 := by
    have : x.2.2.1 - 1 = 0 := nI_inj (show nI (x.2.2.1 - 1) = nI 0 from c7) (by omega) (by decide)
    omega
  rw [if_pos k1] at r9'
  have va : VaN E.1 (τ.2.2 3) n := by
    have bs : tkS (τ.2.2 3) n 0 = seg (τ.2.2 3) 0 n := by unfold tkS; rw [en]
    refine ⟨x, mx, k1, by rw [nx, bs, seg_len]; omega, fun k hk => ?_⟩
    rw [nx, bs, seg_at (by omega), Nat.zero_add]
  refine Tm_suc (fun k => by rw [f_X11_value]) ?_
  rw [lI_same]
  refine Tm_chk (n_in (by omega) i256) ?_
  rw [n_cl (p := i) (by omega)]
  generalize hs4 : uI r3.2.1 3701 0 = s4
  have fr4 : HfT σ s4 := by rw [← hs4]; exact HfT_tr fr3 (HfT_i (Or.inl ⟨by decide, by decide⟩))
  have sc4 : sCur s4 = sCur σ := fr4.2.2.1.1
  have f37 : s4.1 3701 = 0 := by rw [← hs4, uI_s]
  have ph4 := Ph_s (σ := r3.2.1) (σ' := s4) (by rw [← hs4]; rfl)
  have r94 : s4.2.2.1 (pR9 (sCur s4)) i = nI x.2.2.2 := by rw [sc4, ← hs4]; exact r9'
  have ok4 : tOK s4 := by
    obtain ⟨h1, h2, h3, h4, h5, _⟩ := l1
    unfold tOK
    rw [f37, show sN s4 38 = sN r3.2.1 38 by rw [← hs4]; rfl, show s4.2.2.1 38 = r3.2.1.2.2.1 38 by rw [← hs4]; rfl]
    have z0 : (0 : Int32).toInt = 0 := rfl
    exact ⟨by omega, by omega, by omega, h4, h5⟩
  clear hs4
  have ic4 : IC XE j s4 := IC_tq (n2 := 0) ic0 fr4 ok4 f37 (fun _ _ _ => Nat.zero_le _)
  have e11' : s4.1 7511 = σ.1 7511 := fr4.1.1 7511 (by decide)
  obtain ⟨g, l, t, hq, hv, hg, hc⟩ := IC_g2 ic4 hj (by rw [e11']; exact nz)
  obtain ⟨⟨g1, g2⟩, g3⟩ := hg _ _ x hX mx k1
  have h8 : uN (s4.1 7518) ≤ 2 := by obtain ⟨n, sz, _, _, ⟨_, q, _⟩, _⟩ := ic4; exact q
  have hb : BY False s4 := by obtain ⟨n, sz, _, _, _, ⟨_, q⟩, _⟩ := ic4; exact q
  have x60 : x.2.2.2 < 60 := by have := de.2.1.2.1; omega
  rw [r94]
  refine Tm_op (c_global (L := lI lZ 1 (nI x.2.2.2)) (n := x.2.2.2) (by show uN (nI x.2.2.2) = _; rw [u_n (by omega)]) g1 g2) (fun r5 z5 => ?_)
  rw [z5]
  refine Tm_oxc (c_show (L := lI lZ 1 (s4.2.2.1 20 (4 + x.2.2.2))) hq hv hb h8 g3) (fun r z => z.1) (fun r6 z6 => Tm_some ?_)
  obtain ⟨y1, y2, y3, y4, y5, y6, y7⟩ := z6
  have ic6 := hc r6.2.1 y3 y4 y5 y6 y7
  obtain ⟨k1', k2', k3'⟩ := SwF_M y3
  have v1 : r6.2.2.1 + PhC r6.2.1 ≤ PhC s4 := y2.1
  have v2 : r6.2.2.2 + PhS r6.2.1 ≤ PhS s4 := y2.2
  refine ⟨Or.inl rfl, by show r1.2.2.1 + (r3.2.2.1 + (r6.2.2.1 + 0)) + PhC r6.2.1 ≤ _; omega, by show r1.2.2.2 + (r3.2.2.2 + (r6.2.2.2 + 0)) + PhS r6.2.1 ≤ _; omega, ?_⟩
  refine Tm_mono ref (fun q w => ⟨?_, trivial⟩)
  obtain ⟨w1', ⟨w2', w3', w4'⟩, w5'⟩ := w
  show IB (j + 1) r6.2.1 q.2
  rcases w5' with ⟨_, na⟩ | ⟨q4, _⟩
  · exact absurd va na
  · exact ⟨XE, ic6, w1', tRel_0 ((k1' 3701 (by decide) (by decide)).trans f37) q4, by rw [k1' 7510 (by decide) (by decide), fr4.1.1 7510 (by decide), w3']; exact e10, by rw [k1' 7511 (by decide) (by decide), e11', w4']; exact e11, by rw [k1' 7513 (by decide) (by decide), fr4.1.1 7513 (by decide), w2']; exact e13⟩
end DZG
end JnS558
section JnS559
/-! The class: the places of unit 41 alone are typed (made by rs559.py). -/
section DZH
variable {c c' c1 c2 : Ct} {u nu p p1 p2 d rk k w n m N N0 vg W F pc op : Nat} {r ms : List Nat} {num : Int32}
/-- c2 has what c1 has of unit 41, and the funcs' entries -/
def RsR (c1 c2 : Ct) : Prop := (∀ p x, tcD c1 p = some x → (x.1 = 41 ∨ x.1 = 141) → tcD c2 p = some x) ∧ tcN c1 = tcN c2 ∧ (∀ v, tcK c1 v → (tcE c1 v = tcE c2 v ∧ tcP c1 v = tcP c2 v) ∧ tcK c2 v ∧ ∀ x, tcD c1 (tcE c1 v) = some x → tcD c2 (tcE c2 v) = some x) ∧ (∀ v, tcF c1 v = tcF c2 v) ∧ True ∧ ∀ i, tcC c1 i = tcC c2 i
theorem rst_D (R : RsR c1 c2) {y : Nat × List Nat × Nat} (e : p1 = p2) (h : tcD c1 p1 = some (41, y)) : tcD c2 p2 = some (41, y) := by
  rw [← e]
  exact R.1 p1 _ h (Or.inl rfl)
theorem rst_D1 (R : RsR c1 c2) {y : Nat × List Nat × Nat} (e : p1 = p2) (h : tcD c1 p1 = some (141, y)) : tcD c2 p2 = some (141, y) := by
  rw [← e]
  exact R.1 p1 _ h (Or.inr rfl)
theorem rst_S (R : RsR c1 c2) (h : tcS c1 41) : tcS c2 41 := absurd rfl h.2
theorem rst_x (R : RsR c1 c2) (e : p1 = p2) (h : Nx c1 p1 41 d r k) : Nx c2 p2 41 d r k := by
  obtain ⟨rk, ⟨d', r', a1, a2, a3⟩, a4, a5⟩ := h
  rw [R.2.2.2.1] at a3 a5
  exact ⟨rk, ⟨d', r', rst_D R e a1, a2, a3⟩, a4, a5⟩
theorem rst_xS (R : RsR c1 c2) (e : p1 = p2) (h : NxS c1 p1 41 d r) : NxS c2 p2 41 d r := by
  obtain ⟨rk, ⟨d', r', a1, a2, a3⟩, a4, a5⟩ := h
  rw [R.2.2.2.1] at a3 a5
  exact ⟨rk, ⟨d', r', rst_D R e a1, a2, a3⟩, a4, a5⟩
theorem rst_xR (R : RsR c1 c2) (e : p1 = p2) (h : NxR c1 p1 41 d r) : NxR c2 p2 41 d r := by
  obtain ⟨rk, a1, a4, a5⟩ := h
  rw [R.2.2.2.1] at a5
  exact ⟨rk, rst_D R e a1, a4, a5⟩
theorem rst_y (R : RsR c1 c2) {x : Int32} (hp : pc < 4294967296) (h : Nx c1 (uN (nI pc + x)) 41 d r k) : Nx c2 (uN (nI pc + x)) 41 d r k := rst_x R rfl h
theorem rst_yS (R : RsR c1 c2) {x : Int32} (hp : pc < 4294967296) (h : NxS c1 (uN (nI pc + x)) 41 d r) : NxS c2 (uN (nI pc + x)) 41 d r := rst_xS R rfl h
theorem rst_c (R : RsR c1 c2) (k : Nat) : tcC c1 (pc + k) = tcC c2 (pc + k) := R.2.2.2.2.2 _
theorem rst_W (R : RsR c1 c2) : ∀ k, Wd (tcC c1) p k = Wd (tcC c2) p k
  | 0 => rfl
  | k + 1 => by
    show Wd (tcC c1) p k + (if tcC c1 (p + k) = 97 then 2 else 1) = Wd (tcC c2) p k + (if tcC c2 (p + k) = 97 then 2 else 1)
    rw [rst_W R k, rst_c R]
theorem rst_0 (R : RsR c1 c2) (h : Ok0 c1 pc 41 d r rk) : Ok0 c2 pc 41 d r rk := by
  obtain ⟨h1, w, ms, h2, h3, h4, h5, h6, h7, h8⟩ := h
  exact absurd h5 (by omega)
theorem rst_1 (R : RsR c1 c2) (hp : pc < 4294967296) (h : Ok1 c1 pc 41 d r rk op num) : Ok1 c2 pc 41 d r rk op num := by
  obtain ⟨h1, h2, h3, h4, h5⟩ := h
  refine ⟨fun e => ⟨rst_S R (h1 e).1, (h1 e).2⟩, fun e => rst_y R hp (h2 e), fun e => ?_, fun e => ?_, fun e => ⟨(h5 e).1, rst_xS R (by omega) (h5 e).2⟩⟩
  · obtain ⟨d', e1, e2, e3⟩ := h3 e
    exact ⟨d', e1, rst_x R (by omega) e2, rst_y R hp e3⟩
  · obtain ⟨d', e1, e2, e3⟩ := h4 e
    exact ⟨d', e1, rst_x R (by omega) e2, rst_yS R hp e3⟩
theorem rst_2 (R : RsR c1 c2) (h : Ok2 c1 pc 41 d r rk op num) : Ok2 c2 pc 41 d r rk op num := by
  obtain ⟨h1, h2, h3, h4, h5, h6, h7, h8, h9, h10, h11⟩ := h
  have eN := R.2.1
  have c1' := rst_c (pc := pc) R 1
  refine ⟨fun e => ?_, fun e => ?_, fun e => ?_, fun e => ⟨(h4 e).1, rst_x R (by omega) (h4 e).2⟩, fun e => ⟨by rw [← R.2.2.2.1]; exact (h5 e).1, rst_x R (by omega) (h5 e).2⟩, fun e => ?_, fun e => ⟨(h7 e).1, rst_x R (by omega) (h7 e).2⟩, fun e => ⟨(h8 e).1, rst_x R (by omega) (h8 e).2⟩, fun e => ⟨(h9 e).1, rst_x R (by omega) (h9 e).2⟩, fun e => ⟨(h10 e).1, rst_x R (by omega) (h10 e).2⟩, fun e => ⟨(h11 e).1, rst_xS R (by omega) (h11 e).2⟩⟩
  · obtain ⟨e1, e2, e3⟩ := h1 e
    rw [c1'] at e2
    exact ⟨by omega, e2, rst_x R (by omega) e3⟩
  · obtain ⟨e1, e2, e3⟩ := h2 e
    rw [c1'] at e2
    exact ⟨by omega, e2, rst_xS R (by omega) e3⟩
  · obtain ⟨e1, e2, e3⟩ := h3 e
    unfold LitC at e2 ⊢
    rw [c1'] at e2
    exact ⟨by omega, e2, rst_xS R (by omega) e3⟩
  · obtain ⟨d', r', e1, e2⟩ := h6 e
    exact ⟨d', r', e1, rst_x R (by omega) e2⟩
theorem rst_3 (R : RsR c1 c2) (h : Ok3 c1 pc 41 d r rk op num) : Ok3 c2 pc 41 d r rk op num := by
  obtain ⟨h1, h2, h3, h4, h5⟩ := h
  refine ⟨fun e => ?_, fun e => ?_, fun e => ?_, fun e => rst_xS R (by omega) (h4 e), fun e => ⟨(h5 e).1, rst_xS R (by omega) (h5 e).2⟩⟩
  · obtain ⟨d', e1, e2, e3⟩ := h1 e
    rw [R.2.2.2.1] at e2
    exact ⟨d', e1, e2, rst_xS R (by omega) e3⟩
  · obtain ⟨d', e1, e3⟩ := h2 e
    exact ⟨d', e1, rst_xS R (by omega) e3⟩
  · obtain ⟨d', e1, e3⟩ := h3 e
    exact ⟨d', e1, rst_xS R (by omega) e3⟩
theorem rst_4 (R : RsR c1 c2) (hp : pc < 4294967296) (h : Ok4 c1 pc 41 d r rk op n) : Ok4 c2 pc 41 d r rk op n := by
  obtain ⟨h64, h65, h66, h67, h68, h6s, h69, h70, h71, h72, h73⟩ := h
  have eN := R.2.1
  have k1 := rst_c (pc := pc) R 1
  have k2 := rst_c (pc := pc) R 2
  have eF := R.2.2.2.1 41
  rw [k1] at h65 h67 h68 h70 h72 h73
  rw [k2] at h73
  rw [eF] at h64 h66 h67 h69 h70 h71 h72 h73
  refine ⟨fun e => ?_, fun e => ?_, fun e => ?_, fun e => ?_, fun e => ?_, fun e => ⟨rst_S R (h6s e).1, (h6s e).2⟩, fun e => ?_, fun e => ?_, fun e => ?_, fun e => ?_, fun e => ?_⟩
  · obtain ⟨d', r', e1, e2, e3, e4, e5, e6⟩ := h64 e
    exact ⟨d', r', e1, e2, e3, e4, e5, rst_x R (by omega) e6⟩
  · obtain ⟨r', e1, e2, e3, e4, e5, e6, e7⟩ := h65 e
    exact ⟨r', e1, e2, e3, by omega, e5, rst_y R hp e6, rst_xS R (by omega) e7⟩
  · obtain ⟨d', r1, r', e1, e2, e3, e4, e5, e6, e7⟩ := h66 e
    exact ⟨d', r1, r', e1, e2, e3, e4, e5, e6, rst_x R (by omega) e7⟩
  · obtain ⟨d', r1, r', e1, e2, e3, e4, e5, e6, e7, e8⟩ := h67 e
    exact ⟨d', r1, r', e1, e2, by omega, e4, e5, e6, e7, rst_x R (by omega) e8⟩
  · obtain ⟨r', e1, e2, e3, e4, e5⟩ := h68 e
    exact ⟨r', by omega, e2, e3, e4, rst_x R (by omega) e5⟩
  · obtain ⟨d', r', e1, e2, e3, e4, e5, e6, e7, e8⟩ := h69 e
    exact ⟨d', r', e1, e2, e3, e4, e5, e6, e7, rst_x R (by omega) e8⟩
  · obtain ⟨r', e1, e2, e3, e4, e5, e6, e7, e8⟩ := h70 e
    exact ⟨r', e1, e2, e3, e4, by omega, e6, rst_y R hp e7, rst_xS R (by omega) e8⟩
  · obtain ⟨d', r', e1, e2, e3, e4, e5, e6⟩ := h71 e
    exact ⟨d', r', e1, e2, e3, e4, e5, rst_x R (by omega) e6⟩
  · obtain ⟨d', r', e1, e2, e3, e4, e5, e6, e7⟩ := h72 e
    exact ⟨d', r', e1, e2, by omega, e4, e5, e6, rst_x R (by omega) e7⟩
  · obtain ⟨r', e1, e2, e3, e4, e5, e6, e7, e8⟩ := h73 e
    exact ⟨r', by omega, e2, e3, e4, e5, e6, e7, rst_x R (by omega) e8⟩
theorem rst_5 (R : RsR c1 c2) (h : Ok5 c1 pc 41 d r rk op num) : Ok5 c2 pc 41 d r rk op num := by
  obtain ⟨h1, h2, h3, h4, h5, h6⟩ := h
  have eF := R.2.2.2.1 41
  rw [eF] at h5
  refine ⟨fun e => ?_, fun e => ?_, fun e => ?_, fun e => ?_, fun e => ?_, fun e => ?_⟩
  · obtain ⟨f, e1, e2, e3⟩ := h1 e
    exact ⟨f, e1, e2, rst_x R (by omega) e3⟩
  · obtain ⟨a, s, e1, e2, e3, e4, e5⟩ := h2 e
    exact ⟨a, s, e1, e2, e3, e4, rst_x R (by omega) e5⟩
  · obtain ⟨a, s, e1, e2, e3, e4, e5⟩ := h3 e
    exact ⟨a, s, e1, e2, e3, e4, rst_x R (by omega) e5⟩
  · obtain ⟨a, s, e1, e2, e3, e4⟩ := h4 e
    exact ⟨a, s, e1, e2, e3, rst_xS R (by omega) e4⟩
  · obtain ⟨d', m, f, e1, e2, e3, e4, e5, e6, e7⟩ := h5 e
    exact ⟨d', m, f, e1, e2, e3, e4, e5, e6, rst_x R (by omega) e7⟩
  · obtain ⟨d', m, f, e1, e2, e3, e4, e5, e7⟩ := h6 e
    exact ⟨d', m, f, e1, e2, e3, e4, e5, rst_x R (by omega) e7⟩
theorem rst_6 (R : RsR c1 c2) (hp : pc < 4294967296) (h : Ok6 c1 pc 41 d r rk op num) : Ok6 c2 pc 41 d r rk op num := by
  obtain ⟨h1, h2, h3, h4, h5⟩ := h
  have eN := R.2.1
  have k1 := rst_c (pc := pc) R 1
  have eF := R.2.2.2.1 41
  rw [eF] at h4
  rw [k1] at h5
  refine ⟨fun e => ?_, fun e => ?_, fun e => ?_, fun e => ?_, fun e => ?_⟩
  · obtain ⟨d', e1, e2⟩ := h1 e
    exact ⟨d', e1, rst_xS R (by omega) e2⟩
  · obtain ⟨d', e1, e2⟩ := h2 e
    exact ⟨d', e1, rst_xS R (by omega) e2⟩
  · obtain ⟨v, s, e1, e2, e3, e4⟩ := h3 e
    exact ⟨v, s, e1, e2, e3, rst_x R (by omega) e4⟩
  · obtain ⟨d0, w, ms, e1, e2, e3, e4, e5⟩ := h4 e
    exact ⟨d0, w, ms, e1, e2, e3, e4, rst_x R (by omega) e5⟩
  · obtain ⟨e1, e2, e3, e4⟩ := h5 e
    exact ⟨e1, by omega, rst_y R hp e3, rst_xS R (by omega) e4⟩
theorem rst_8 (R : RsR c1 c2) (h : Ok8 c1 pc 41 d r rk op num) : Ok8 c2 pc 41 d r rk op num := by
  obtain ⟨P, D, ⟨a1, a2, a3⟩, a4, a5, a6, a7, a8⟩ := h
  have eN := R.2.1
  rw [rst_c (pc := pc) R 2] at a1
  rw [rst_c (pc := pc) R 1] at a2
  rw [rst_W R] at a4
  rw [R.2.2.2.1] at a7
  exact ⟨P, D, ⟨a1, a2, by omega⟩, a4, a5, a6, a7, rst_x R (by omega) a8⟩
theorem rst_9 (R : RsR c1 c2) (h : Ok9 c1 pc 41 d r rk op num) : Ok9 c2 pc 41 d r rk op num := by
  obtain ⟨P, D, ⟨a1, a2, a3⟩, a4, a5, ⟨a6, a6'⟩, a7, a8, a9⟩ := h
  have eN := R.2.1
  rw [rst_c (pc := pc) R 2] at a1
  rw [rst_c (pc := pc) R 1] at a2
  rw [rst_W R] at a4
  rw [R.2.2.2.1] at a8
  exact ⟨P, D, ⟨a1, a2, by omega⟩, a4, a5, ⟨a6, rst_S R a6'⟩, a7, a8, rst_x R (by omega) a9⟩
theorem rst_7 (R : RsR c1 c2) (h : Ok7 c1 pc 41 d r rk op num) : Ok7 c2 pc 41 d r rk op num := by
  obtain ⟨h16, h17, h18, h19, h20, h21, h22, h23, h24⟩ := h
  have k1 := rst_c (pc := pc) R 1
  have eF := R.2.2.2.1
  refine ⟨fun e => ?_, fun e => ?_, fun e => ⟨(h18 e).1, (R.2.2.1 41 (h18 e).2).2.1⟩, fun e => ?_, fun e => ?_, fun e => ?_, fun e => ⟨rst_S R (h22 e).1, (h22 e).2⟩, fun e => ⟨rst_S R (h23 e).1, rst_x R (by omega) (h23 e).2⟩, fun e => ?_⟩
  · obtain ⟨a, s, e1, e2, e3⟩ := h16 e
    exact ⟨a, s, e1, e2, rst_x R (by omega) e3⟩
  · obtain ⟨v, d0, r1, ⟨a1, a2, a3⟩, ⟨b1, b2, b3⟩, b4, ⟨b5, b6⟩, b7, b8, b9, b10⟩ := h17 e
    obtain ⟨⟨x1, x2⟩, x3, x4⟩ := R.2.2.1 v a3
    rw [k1] at b7 b8
    rw [eF] at b4
    rw [x2, eF] at b5
    rw [x2] at b1
    rw [eF] at b6
    obtain ⟨rk', y1, y2, y3⟩ := b10
    rw [eF] at y1 y3
    exact ⟨v, d0, r1, ⟨a1, a2, x3⟩, ⟨b1, b2, b3⟩, b4, ⟨b5, b6⟩, b7, b8, rst_xR R (by omega) b9, rk', x4 _ y1, y2, y3⟩
  · obtain ⟨v, ws, ms, _, _, _, b3, _⟩ := h19 e
    exact absurd rfl b3.2
  · obtain ⟨a1, a2, a3⟩ := h20 e
    exact absurd rfl a2.2
  · obtain ⟨ws, ms, a1, a2, a3, a4, a5⟩ := h21 e
    exact absurd rfl a4.2
  · obtain ⟨d', e1, e2⟩ := h24 e
    exact ⟨d', e1, rst_x R (by omega) e2⟩
theorem rst_I (R : RsR c1 c2) (hp : pc < 4294967296) (h : OKI c1 pc 41 d r rk op num) : OKI c2 pc 41 d r rk op num := by
  obtain ⟨h0, h1, h2, h3, h4, h5, h6, h7, h8, h9, h10, h11, h12, h13, h14⟩ := h
  have eN := R.2.1
  refine ⟨fun e => rst_0 R (h0 e), fun e f => rst_1 R hp (h1 e f), h2, fun e f => ⟨fun z => by have := (h3 e f).1 z; omega, rst_7 R (h3 e f).2⟩, fun e f => rst_2 R (h4 e f), fun e f => rst_3 R (h5 e f), fun e f => ⟨(h6 e f).1, (h6 e f).2.1, rst_4 R hp (h6 e f).2.2⟩, fun e f => rst_5 R (h7 e f), fun e f => rst_6 R hp (h8 e f), fun e f => ?_, fun e f => ?_, fun e => ?_, fun e f => ⟨(h12 e f).1, rst_xS R (by omega) (h12 e f).2⟩, fun e f => rst_8 R (h13 e f), fun e f => rst_9 R (h14 e f)⟩
  · obtain ⟨a1, a2, e0, r1, rk', a3, a4, a5, a6, a7⟩ := h9 e f
    exact ⟨a1, a2, e0, r1, rk', a3, a4, rst_D1 R (by omega) a5, a6, rst_xS R (by omega) a7⟩
  · obtain ⟨d', a1, a2⟩ := h10 e f
    exact ⟨d', a1, rst_xS R (by omega) a2⟩
  · obtain ⟨d', a1, a2, a3⟩ := h11 e
    exact ⟨d', a1, rst_S R a2, rst_x R (by omega) a3⟩
/-- a place of unit 41 that is good -/
theorem rst_P (R : RsR c1 c2) (hb : ∀ x, tcD c2 pc = some x → tcD c1 pc = some x ∧ (x.1 = 41 ∨ x.1 = 141)) (hp : pc < 4294967296) (h : CkP c1 pc) : CkP c2 pc := by
  intro u d r rk e
  obtain ⟨e1, e2⟩ := hb _ e
  obtain ⟨a1, a2, op, a3, a4, a5, a6⟩ := h u d r rk e1
  have eN := R.2.1
  rw [show tcC c1 pc = tcC c2 pc from R.2.2.2.2.2 pc] at a4 a5
  have e2' : u = 41 ∨ u = 141 := e2
  rcases e2' with rfl | rfl
  · exact ⟨by omega, a2, op, a3, a4, fun hu => rst_I R hp (a5 hu), fun hu => absurd hu (by decide)⟩
  · refine ⟨by omega, a2, op, a3, a4, fun hu => absurd hu (by decide), fun hu => ⟨(a6 hu).1, (a6 hu).2.1, fun d' r0 er => ?_⟩⟩
    exact rst_xS R rfl ((a6 hu).2.2 d' r0 er)
end DZH
end JnS559
section JnS560
/-! The class: the machine over less code: what is left out is of unit 41 alone (made by rs560.py). -/
section DZI
variable {σ σ' s : CS} {c c1 c2 : Ct} {g : Nat → Prop} {l : List Nat} {t B f0 u0 : Nat} {K K2 K3 K4 KB : Nat → Option Int32}
def CtL2 (c1 c2 : Ct) : Prop := tcP c2 = tcP c1 ∧ tcF c2 = tcF c1 ∧ tcK c2 = tcK c1 ∧ ¬ tcK c1 41 ∧ ∀ p x, tcD c1 p = some x → x.1 < 41 → tcD c2 p = some x
theorem CtL2_S (x : CtL2 c1 c2) {u : Nat} (h : tcS c1 u) : tcS c2 u := ⟨by rw [x.2.2.1]; exact h.1, h.2⟩
theorem FC_u (k : ¬ tcK c 41) : ∀ (fs : List FrT) (fp u pb nf nc sq : Nat), FC c K K4 f0 0 fs fp u pb nf nc sq → ¬ u = 41
  | [], fp, u, pb, nf, nc, sq, h => by have := h.2.1; omega
  | q :: fs, fp, u, pb, nf, nc, sq, h => by
    obtain ⟨⟨bk, rb, z2, z3, a, b, s, f1, f2, f3, kk⟩, w⟩ := h
    intro e
    rcases kk with ⟨k1, _⟩ | ⟨_, _, k3, _⟩
    · rw [e] at k1; exact k k1
    · omega
theorem FC_n (x : CtL2 c1 c2) : ∀ (fs : List FrT) (fp u pb nf nc sq : Nat), FC c1 K K4 f0 0 fs fp u pb nf nc sq → FC c2 K K4 f0 0 fs fp u pb nf nc sq
  | [], fp, u, pb, nf, nc, sq, h => h
  | q :: fs, fp, u, pb, nf, nc, sq, h => by
    have ih := FC_n x fs
    obtain ⟨⟨bk, rb, z2, z3, a, b, s, f1, f2, f3, kk⟩, w⟩ := h
    obtain ⟨hP, hF, hK, h41, hD⟩ := id x
    have nq := FC_u h41 _ _ _ _ _ _ _ w
    have q41 : q.2.1 < 41 := by have := f3.2; omega
    refine ⟨⟨bk, rb, z2, z3, a, b, s, by rw [hF]; exact f1, by rw [hP, hF]; exact f2, f3, ?_⟩, ih _ _ _ _ _ _ w⟩
    rcases kk with ⟨k1, k2, k3⟩ | ⟨k1, k2, k3, k4, k5⟩
    · exact Or.inl ⟨by rw [hK]; exact k1, hD _ _ k2 q41, k3⟩
    · exact Or.inr ⟨CtL2_S x k1, CtL2_S x k2, k3, by rw [hP]; exact hD _ _ k4 q41, k5⟩
theorem RUN_n (x : CtL2 c1 c2) {pc fp sp nc m : Nat} (h : RUN c1 K pc fp sp nc m) : RUN c2 K pc fp sp nc m := by
  obtain ⟨u, d, rk, sq, fs, ms, ⟨h1, h1'⟩, h2, h3, h4, h5, h6, h7, h8, h9, h10, h11⟩ := h
  exact ⟨u, d, rk, sq, fs, ms, ⟨x.2.2.2.2 _ _ h1 h7, h1'⟩, h2, h3, h4, by rw [x.2.1]; exact h5, CtL2_S x h6, h7, FC_n x _ _ _ _ _ _ _ h8, h9, h10, by rw [x.2.1]; exact h11⟩
theorem POK_n (x : CtL2 c1 c2) {N : Nat} : ∀ (n top : Nat), POK c1 K N n top → POK c2 K N n top
  | 0, top, h => trivial
  | n + 1, top, h => by
    obtain ⟨off, pc, fp, sp, nc, z4, z5, h1, h2, h3, h4, h5⟩ := h
    exact ⟨off, pc, fp, sp, nc, z4, z5, h1, h2, h3, RUN_n x h4, POK_n x n off h5⟩
theorem SvR_nn (x : CtL2 c1 c2) (f : PFx σ σ') {p s : Nat} (hp : p < 9) (h : SvR c1 K σ p s) : SvR c2 K σ' p s := by
  obtain ⟨⟨f1, f1'⟩, f2, f3⟩ := f
  have e : ∀ i, i < 16 → σ'.1 (100 * (28 + p) + i) = σ.1 (100 * (28 + p) + i) := fun i hi => f1 _ (by omega) (by omega)
  have n20 := (f2 20 (by omega)).2
  have n21 := (f2 21 (by omega)).2
  unfold SvR at h ⊢
  rw [e 0 (by omega), e 1 (by omega), e 2 (by omega), e 8 (by omega), e 7 (by omega), e 5 (by omega), e 13 (by omega), e 12 (by omega), e 14 (by omega), e 15 (by omega), n20, n21]
  exact ⟨RUN_n x h.1, h.2.1, h.2.2.1, POK_n x _ _ h.2.2.2⟩
theorem SVK_nn (x : CtL2 c1 c2) (f : PFx σ σ') (h : SVK c1 K σ) : SVK c2 K σ' := by
  have pi := PFx_pi f
  have f0 := f
  obtain ⟨⟨f1, f1'⟩, f2, f3⟩ := f
  obtain ⟨⟨⟨h1, h2⟩, h3⟩, h4, h5, h6, h7⟩ := h
  have e : ∀ i k, i < 9 → k < 16 → σ'.1 (100 * (28 + sPi σ i) + k) = σ.1 (100 * (28 + sPi σ i) + k) := fun i k hi hk => f1 _ (by have := h4 i hi; omega) (by omega)
  have r27 := (f2 27 (by omega)).1
  have e4 := f1 2404 (by decide) (by decide)
  have e3 := f1 2403 (by decide) (by decide)
  have e5 := f1 2405 (by decide) (by decide)
  refine ⟨⟨⟨by rw [e4]; exact h1, by rw [e3]; exact h2⟩, SVB_xx f0 h4 h1 h3⟩, by rw [pi]; exact h4, by rw [pi]; exact h5, fun i hi => ?_, fun z => ?_⟩
  · rw [e4] at hi
    obtain ⟨k1, k2, k3⟩ := h6 i hi
    rw [pi, r27, e i 2 (by omega) (by omega), e i 13 (by omega) (by omega), e3, e4]
    exact ⟨SvR_nn x f0 (h4 i (by omega)) k1, k2, k3⟩
  · rw [e5] at z
    obtain ⟨k1, k2, k3⟩ := h7 z
    rw [pi, r27, e 8 2 (by omega) (by omega), e 8 13 (by omega) (by omega), e3]
    exact ⟨SvR_nn x f0 (h4 8 (by omega)) k1, k2, k3⟩
theorem MsG_nn (x : CtL2 c1 c2) (f : PFx σ σ') (ct : CtL c2 σ') (by0 : BY False σ') (h67 : ∀ i, i < 27 → Gv g (σ'.2.2.1 67 i)) (h : MsG c1 g l t σ) : MsG c2 g l t σ' := by
  obtain ⟨h1, h2, K, K2, K3, K4, mi, rn⟩ := h
  obtain ⟨m1, m2, m3, m4, m5, m6, m7, m8, m9, m10, m11⟩ := mi
  have f0 := f
  obtain ⟨⟨f1, f1'⟩, f2, f3⟩ := f
  refine ⟨by0, by rw [f1 1902 (by decide) (by decide)]; exact h2, K, K2, K3, K4, ⟨HQ_xx f0 m1, VI_xx f0 h67 m2, ct, ?_, SVK_nn x f0 m5, by rw [x.2.1]; exact m6, ?_, ?_, ?_, ?_, ?_⟩, fun z => ?_⟩
  · rw [(f2 20 (by omega)).2, f1 1912 (by decide) (by decide), f1 1913 (by decide) (by decide)]
    exact POK_n x _ _ m4
  · rw [x.2.1, f1 1902 (by decide) (by decide)]; exact m7
  · rw [f1 1903 (by decide) (by decide), f1 1814 (by decide) (by decide)]; exact m8
  · rw [f1 1912 (by decide) (by decide)]; exact m9
  · rw [f1 1914 (by decide) (by decide)]; exact m10
  · rw [f1 1915 (by decide) (by decide)]; exact m11
  · rw [f1 1907 (by decide) (by decide)] at z
    rw [f1 1905 (by decide) (by decide), f1 1900 (by decide) (by decide), f1 1901 (by decide) (by decide), f1 1902 (by decide) (by decide), f1 1908 (by decide) (by decide)]
    exact ⟨(rn z).1, RUN_n x (rn z).2⟩
end DZI
end JnS560
section JnS561
/-! The class: an exp that is asked for is read: what it leaves. -/
section DZJ
variable {σ σ1 σ2 σ3 s s' τ τ' : CS} {b : Bool} {N M n nc sz mk a1 a2 : Nat} {x1 : Int32}
/-- what the reading of an exp leaves: N code, M names stay -/
def RxF (b : Bool) (N M n : Nat) (σ s : CS) : Prop := ((∀ j, ¬ (j = 404 ∨ (3702 ≤ j ∧ j ≤ 3704) ∨ (4003 ≤ j ∧ j ≤ 4020) ∨ j = fP b 1 ∨ j = fP b 11 ∨ j = fP b 19) → s.1 j = σ.1 j) ∧ ∀ j, ¬ (j = 3705 ∨ j = 3706) → s.2.1 j = σ.2.1 j) ∧ ((∀ k, ¬ ((5 ≤ k ∧ k ≤ 11) ∨ k = 38 ∨ k = 41 ∨ k = 43 ∨ k = 51 ∨ k = pR7 b ∨ k = pR8 b ∨ k = pR9 b ∨ k = pR10 b ∨ k = pR13 b ∨ k = pR14 b ∨ k = pR15 b ∨ k = pR16 b ∨ k = pR17 b ∨ k = pR18 b) → s.2.2.1 k = σ.2.2.1 k) ∧ (∀ k, ¬ (k = 38 ∨ k = 41 ∨ k = 43 ∨ k = 51) → sN s k = sN σ k) ∧ (∀ k, ¬ (k = pR5 b ∨ k = pR6 b) → s.2.2.2.1 k = σ.2.2.2.1 k)) ∧ ((sCur s = sCur σ ∧ sOt s = sOt σ ∧ sPr s = sPr σ) ∧ (∀ d, ¬ d = b → sKd s d = sKd σ d) ∧ s.2.2.2.2.2.2 = σ.2.2.2.2.2.2) ∧ ((∀ i, ¬ i = 41 → s.2.2.1 (pR13 b) i = σ.2.2.1 (pR13 b) i ∧ s.2.2.1 (pR14 b) i = σ.2.2.1 (pR14 b) i ∧ s.2.2.1 (pR15 b) i = σ.2.2.1 (pR15 b) i ∧ s.2.2.1 (pR18 b) i = σ.2.2.1 (pR18 b) i) ∧ s.2.2.1 (pR14 b) 41 = 0 ∧ s.2.2.1 (pR18 b) 41 = 0) ∧ (∀ i, i < M → (s.2.2.2.1 (pR5 b) i = σ.2.2.2.1 (pR5 b) i ∧ s.2.2.2.1 (pR6 b) i = σ.2.2.2.1 (pR6 b) i) ∧ (s.2.2.1 (pR7 b) i = σ.2.2.1 (pR7 b) i ∧ s.2.2.1 (pR8 b) i = σ.2.2.1 (pR8 b) i) ∧ s.2.2.1 (pR9 b) i = σ.2.2.1 (pR9 b) i ∧ s.2.2.1 (pR10 b) i = σ.2.2.1 (pR10 b) i) ∧ (∀ i, i < N → cdr b s i = cdr b σ i ∧ cdr (!b) s i = cdr (!b) σ i) ∧ (N ≤ cdn b s ∧ (cdn b s = 36864 ∨ (sN s 43 = 1024 ∧ sN s 51 = 1024))) ∧ sN s 41 ≤ 21504 ∧ cN s n
/-- the numbers of the parser, of the code and of the names are free -/
theorem RxF_u (h : RxF b N M n σ s) (f1 : ∀ j, ¬ ((4003 ≤ j ∧ j ≤ 4020) ∨ j = fP b 1 ∨ j = fP b 11) → s'.1 j = s.1 j) (f2 : s'.2 = s.2) : RxF b N M n σ s' := by
  have fc1 := fP_c b 1
  have fc11 := fP_c b 11
  obtain ⟨a', r'⟩ := s'
  obtain ⟨a0, r0⟩ := s
  have e : r' = r0 := f2
  subst e
  obtain ⟨⟨h1, h2⟩, h3, h4, h5, h6, h7, h8, h9, h10⟩ := h
  exact ⟨⟨fun j hj => (f1 j (by omega)).trans (h1 j hj), h2⟩, h3, h4, h5, h6, h7, h8, h9, (f1 3701 (by omega)).trans h10.1, h10.2⟩
/-- more is read -/
theorem RxF_x (h : RxF b N M n σ s) (xk : XK b 41 nc sz mk s s') (hM : M ≤ nc) (hN : N ≤ sz) : RxF b N M n σ s' := by
  have p13 := pR_13 b
  have fc1 := fP_c b 1
  have fc11 := fP_c b 11
  have fc19 := fP_c b 19
  obtain ⟨⟨h1, h2⟩, ⟨h3, h3', h3''⟩, ⟨⟨h4, h4', h4''⟩, h5, h5'⟩, ⟨h6, h6', h6''⟩, h7, h8, h9, h10, h11⟩ := h
  obtain ⟨⟨x1, x2⟩, ⟨x3, x3', x3''⟩, ⟨⟨x4, x4', x4'', x4'''⟩, x5, x5'⟩, x6, x7, x8, x9, x10, x11⟩ := xk
  have r13 := x3 (pR13 b) (by cases b <;> decide)
  have r14 := x3 (pR14 b) (by cases b <;> decide)
  have r15 := x3 (pR15 b) (by cases b <;> decide)
  have r18 := x3 (pR18 b) (by cases b <;> decide)
  refine ⟨⟨fun j hj => (x1 j (by omega)).trans (h1 j hj), fun j hj => (x2 j hj).trans (h2 j hj)⟩, ⟨fun k hk => (x3 k (by omega)).trans (h3 k hk), fun k hk => (x3' k (by omega)).trans (h3' k hk), fun k hk => (x3'' k hk).trans (h3'' k hk)⟩, ⟨⟨x4.trans h4, x4'.trans h4', x4''.trans h4''⟩, fun d hd => (x5 d hd).trans (h5 d hd), x5'.trans h5'⟩, ⟨fun i hi => ?_, by rw [r14]; exact h6', by rw [r18]; exact h6''⟩, fun i hi => ?_, fun i hi => ⟨(x8 i (by omega)).1.trans (h8 i hi).1, (x8 i (by omega)).2.trans (h8 i hi).2⟩, ⟨by omega, x10.2⟩, x11.2, ?_⟩
  · rw [r13, r14, r15, r18]; exact h6 i hi
  · obtain ⟨⟨y1, y2⟩, ⟨y3, y4⟩, y5, y6⟩ := x7 i (by omega)
    obtain ⟨⟨z1, z2⟩, ⟨z3, z4⟩, z5, z6⟩ := h7 i hi
    exact ⟨⟨y1.trans z1, y2.trans z2⟩, ⟨y3.trans z3, y4.trans z4⟩, y5.trans z5, y6.trans z6⟩
  · unfold cN at h11 ⊢
    rw [x1 3701 (by omega), x3' 38 (by omega), x3 38 (by omega)]
    exact h11
/-- the unit is opened, the text looked at -/
theorem RxF_0 {kd st en : Int32} {hi lo : Int64} (e1 : σ1 = opU b 41 x1 σ) (bg : BgF n σ1 σ2) (e3 : σ3 = sA σ2 kd st en hi lo) (cd : CdL b N σ) (h41 : sN σ 41 ≤ 21504) : RxF b N M n σ σ3 := by
  have p13 := pR_13 b
  have fc1 := fP_c b 1
  have fc11 := fP_c b 11
  have fc19 := fP_c b 19
  have b0 := bg
  obtain ⟨⟨g1, g2⟩, ⟨g3, g4⟩, ⟨⟨g5, g6, g7, g8⟩, g9⟩, g10⟩ := bg
  have k2 : σ1.2.1 = σ.2.1 := by rw [e1]; exact opU_2.1
  have k3 : σ1.2.2.2 = σ.2.2.2 := by rw [e1]; exact opU_2.2
  have s22 : σ3.2.2 = σ2.2.2 := by rw [e3]; rfl
  have sN3 : ∀ k, sN σ3 k = sN σ2 k := fun k => by show σ3.2.2.2.2.1 k = _; rw [s22]
  have n1 : ∀ k, sN σ1 k = sN σ k := fun k => by show σ1.2.2.2.2.1 k = _; rw [k3]
  have rr : ∀ k, ¬ k = 38 → σ3.2.2.1 k = σ1.2.2.1 k := fun k hk => by rw [s22]; exact (g3 k hk).1
  have rk : ∀ k, ¬ k = 38 → ¬ (k = pR13 b ∨ k = pR14 b ∨ k = pR15 b ∨ k = pR16 b ∨ k = pR17 b ∨ k = pR18 b) → σ3.2.2.1 k = σ.2.2.1 k := fun k hk h2 => by rw [rr k hk, e1]; exact opU_k h2
  have nn : ∀ k, ¬ k = 38 → sN σ3 k = sN σ k := fun k hk => by rw [sN3, (g3 k hk).2, n1]
  have kd' : sKd σ3 = sKd σ := by
    show σ3.2.2.2.2.2.1.2.2.2.2 = _
    rw [s22]
    exact g8.trans (by show σ1.2.2.2.2.2.1.2.2.2.2 = _; rw [k3])
  have cdf : ∀ d i, cdr d σ3 i = cdr d σ i := fun d i => by
    have p0 := pR0_c (sKd σ d)
    show σ3.2.2.1 (pR0 (sKd σ3 d)) i = σ.2.2.1 (pR0 (sKd σ d)) i
    rw [kd', rk _ (by omega) (by omega)]
  have cdf2 : cdn b σ3 = cdn b σ := by
    have p0 := pR0_c (sKd σ b)
    show sN σ3 (pR0 (sKd σ3 b)) = sN σ (pR0 (sKd σ b))
    rw [kd', nn _ (by omega)]
  refine ⟨⟨fun j hj => ?_, fun j hj => ?_⟩, ⟨fun k hk => rk k (by omega) (by omega), fun k hk => nn k (by omega), fun k hk => ?_⟩, ⟨⟨?_, ?_, ?_⟩, fun d _ => by rw [kd'], ?_⟩, ⟨fun i hi => ⟨?_, ?_, ?_, ?_⟩, ?_, ?_⟩, fun i hi => ⟨⟨?_, ?_⟩, ⟨?_, ?_⟩, ?_, ?_⟩, fun i hi => ⟨cdf b i, cdf (!b) i⟩, ⟨by rw [cdf2]; exact cd.2.1, by rw [cdf2, nn 43 (by decide), nn 51 (by decide)]; exact cd.2.2⟩, by rw [nn 41 (by decide)]; exact h41, by rw [e3]; exact cN_sA g10⟩
  · rw [e3]
    show upd (upd (upd σ2.1 3702 kd) 3703 st) 3704 en j = _
    rw [upd_other (by omega), upd_other (by omega), upd_other (by omega), g1 j (by omega), e1]
    exact opU_f (by omega)
  · rw [e3]
    show updW (updW σ2.2.1 3705 _) 3706 lo j = _
    rw [updW_other (by omega), updW_other (by omega), g2, k2]
  · rw [s22, g4, k3]
  · show σ3.2.2.2.2.2.1.1 = _
    rw [s22]; exact g5.trans (by show σ1.2.2.2.2.2.1.1 = _; rw [k3])
  · show σ3.2.2.2.2.2.1.2.1 = _
    rw [s22]; exact g6.trans (by show σ1.2.2.2.2.2.1.2.1 = _; rw [k3])
  · show σ3.2.2.2.2.2.1.2.2.1 = _
    rw [s22]; exact g7.trans (by show σ1.2.2.2.2.2.1.2.2.1 = _; rw [k3])
  · rw [s22, g9, k3]
  · rw [rr _ (by omega), e1, opU_13, upd_other hi]
  · rw [rr _ (by omega), e1, opU_14, upd_other hi]
  · rw [rr _ (by omega), e1, opU_15, upd_other hi]
  · rw [rr _ (by omega), e1, opU_18, upd_other hi]
  · rw [rr _ (by omega), e1, opU_14, upd_same]
  · rw [rr _ (by omega), e1, opU_18, upd_same]
  · rw [s22, g4, k3]
  · rw [s22, g4, k3]
  · rw [rk _ (by omega) (by omega)]
  · rw [rk _ (by omega) (by omega)]
  · rw [rk _ (by omega) (by omega)]
  · rw [rk _ (by omega) (by omega)]
end DZJ
end JnS561
