/-! The house: start, step, back. -/
section DYZ
variable {σ s : CS} {ρ τ ω : MS} {b : Bool} {sz j n n2 V : Nat} {XE : XEt} {L : LV} {c : Ct} {gl : List Gn} {pr : Nat → Nat}
theorem ka_3 {m : Nat} (k : Nat) (L : LV) (σ : CS) (h : KG m σ) : Gf m (f_X3_advance k 3 L σ) := by
  cases k with
  | zero => exact Gf_no
  | succ k => exact Gf_eq (by rw [f_X3_advance]) (Gf_so h)
theorem ka_4 {m : Nat} (k : Nat) (L : LV) (σ : CS) (h : KG m σ) : Gf m (f_X3_advance k 4 L σ) := by
  cases k with
  | zero => exact Gf_no
  | succ k =>
    refine Gf_eq (by rw [f_X3_advance]) ?_
    exact Gf_oP (fun _ => Gf_ite (ka_3 _ _ _ (KG_I (by decide) (KG_I (by decide) (KG_I (by decide) h)))) Gf_no)
theorem ka_2 {m : Nat} (k : Nat) (L : LV) (σ : CS) (h : KG m (uI σ 1814 (L.1 1))) : Gf m (f_X3_advance k 2 L σ) := by
  cases k with
  | zero => exact Gf_no
  | succ k =>
    refine Gf_eq (by rw [f_X3_advance]) ?_
    exact Gf_op (kg_y_X9_expect _ _ _ _ h) (fun _ h1 => Gf_ox (kg_f_X3_execute _ _ _ _ h1) (fun _ h2 => Gf_ite (ka_3 _ _ _ h2) (Gf_op (kg_y_J7_fill_53178__a23 _ _ _ _ h2) (fun _ h3 => ka_4 _ _ _ (KG_I (by decide) h3)))))
/-- no more statements than were asked for -/
theorem ka_0 {m : Nat} (h : uN (σ.1 1903) + uN (L.1 1) ≤ m) (hm : m < 4294967296) : ∀ (k : Nat) (r : RS), f_X3_advance k 0 L σ = some r → uN (r.2.1.1 1903) ≤ m := by
  intro k r e
  cases k with
  | zero => cases e
  | succ k =>
    have b1 : ∀ k', f_X3_advance k' 1 L σ = some r → uN (r.2.1.1 1903) ≤ m := fun k' e' => by
      cases k' with
      | zero => cases e'
      | succ k' =>
        rw [f_X3_advance] at e'
        obtain rfl := Option.some.inj e'
        show uN (σ.1 1903) ≤ m
        omega
    rw [f_X3_advance] at e
    cases hp : sPr σ with
    | none => rw [hp] at e; exact b1 k e
    | some b =>
      rw [hp] at e
      by_cases h7 : σ.1 1907 = 0
      · have e' : (if σ.1 1907 = 0 then f_X3_advance k 2 L σ else f_X3_advance k 1 L σ) = some r := e
        rw [if_pos h7] at e'
        have z := ka_2 (m := m) k L σ ⟨by rw [uI_o (by decide), uI_s]; exact h, hm⟩ r e'
        have z1 := z.1
        omega
      · have e' : (if σ.1 1907 = 0 then f_X3_advance k 2 L σ else f_X3_advance k 1 L σ) = some r := e
        rw [if_neg h7] at e'
        exact b1 k e'
theorem c_advance2 (ms : Mst c σ) (ck : CkA c) (k0 : tcS c 0) (f0' : tcF c 0 ≤ 1000) (hn : uN (σ.1 1903) + uN (L.1 1) ≤ 10240000) : Tm (fun k => f_X3_advance k 0 L σ) (fun q => (q.1 = (0, 0) ∧ CoP σ q ∧ MFr σ q.2.1 ∧ Mst c q.2.1) ∧ uN (q.2.1.1 1903) ≤ uN (σ.1 1903) + uN (L.1 1)) := Tm_pt (c_advance ms ck k0 f0' hn) (fun k r e => ka_0 (Nat.le_refl _) (by omega) k r e)
/-- what the machine leaves of the house -/
def HfM (σ s : CS) : Prop := (∀ i, 3700 ≤ i → ¬ (i = 7511 ∨ i = 7519) → s.1 i = σ.1 i) ∧ (∀ k, k = 38 ∨ (41 ≤ k ∧ k ≤ 66) ∨ (69 ≤ k ∧ k ≤ 74) → s.2.2.1 k = σ.2.2.1 k ∧ sN s k = sN σ k) ∧ s.2.2.2.1 = σ.2.2.2.1 ∧ (sCur s = sCur σ ∧ sOt s = sOt σ ∧ sKd s = sKd σ)
theorem HfM_t {s2 : CS} (a : HfM σ s) (d : HfM s s2) : HfM σ s2 := ⟨fun i h1 h2 => (d.1 i h1 h2).trans (a.1 i h1 h2), fun k hk => ⟨(d.2.1 k hk).1.trans (a.2.1 k hk).1, (d.2.1 k hk).2.trans (a.2.1 k hk).2⟩, d.2.2.1.trans a.2.2.1, ⟨d.2.2.2.1.trans a.2.2.2.1, d.2.2.2.2.1.trans a.2.2.2.2.1, d.2.2.2.2.2.trans a.2.2.2.2.2⟩⟩
theorem HfM_m (h : MFr σ s) : HfM σ s := by
  obtain ⟨h1, h2, h3, h4, h5⟩ := h
  have e5 : s.2.2.2.2.2.1 = σ.2.2.2.2.2.1 := h5
  refine ⟨fun i a b => h1 i (by omega), fun k hk => h3 k (fun z => by unfold rwM at z; omega), h4, ⟨?_, ?_, ?_⟩⟩
  · show s.2.2.2.2.2.1.1 = _; rw [e5]
  · show s.2.2.2.2.2.1.2.1 = _; rw [e5]
  · show s.2.2.2.2.2.1.2.2.2.2 = _; rw [e5]
theorem HfM_cM (h : HfM σ s) : cM c b s = cM c b σ := by
  have p13 := pR_13 b
  have p0 := pR0_c (sKd σ b)
  have kd := h.2.2.2.2.2
  unfold cM
  show (s.2.2.1 (pR0 (sKd s b)), sN s (pR0 (sKd s b)), (fun u => uN (s.2.2.1 (pR13 b) u)), (fun u => uN (s.2.2.1 (pR14 b) u)), (fun u => uN (s.2.2.1 (pR18 b) u)), tcK c, tcD c) = _
  rw [kd, (h.2.1 (pR0 (sKd σ b)) (by omega)).1, (h.2.1 (pR0 (sKd σ b)) (by omega)).2, (h.2.1 (pR13 b) (by omega)).1, (h.2.1 (pR14 b) (by omega)).1, (h.2.1 (pR18 b) (by omega)).1]
theorem HfM_CdL (h : HfM σ s) (cd : CdL b sz σ) : CdL b sz s := by
  have p0 := pR0_c (sKd σ b)
  have kd := h.2.2.2.2.2
  have fc := fP_c b 1
  have en : cdn b s = cdn b σ := by
    show sN s (pR0 (sKd s b)) = sN σ (pR0 (sKd σ b))
    rw [kd, (h.2.1 (pR0 (sKd σ b)) (by omega)).2]
  exact ⟨(h.1 _ (by omega) (by omega)).trans cd.1, by rw [en]; exact cd.2.1, by rw [en, (h.2.1 43 (by omega)).2, (h.2.1 51 (by omega)).2]; exact cd.2.2⟩
theorem HfM_pg (h : HfM σ s) (p : PgI gl pr b sz V c σ) : PgI gl pr b sz V c s := by
  have p13 := pR_13 b
  have p0 := pR0_c (sKd σ b)
  have kd := h.2.2.2.2.2
  have fc := fP_c b 2
  have fc11 := fP_c b 11
  obtain ⟨E, nu, vg, e0, MD, e, ⟨tb, de⟩, ⟨ut, r18⟩, pg, ⟨eN, cd⟩, ⟨en1, en2, en3⟩, vw⟩ := p
  have rr : ∀ k, 41 ≤ k ∧ k ≤ 66 ∨ 69 ≤ k ∧ k ≤ 74 → s.2.2.1 k = σ.2.2.1 k := fun k hk => (h.2.1 k (by omega)).1
  refine ⟨E, nu, vg, e0, MD, e, ⟨TbR_s tb (h.1 _ (by omega) (by omega)) (by rw [h.2.2.1]) (by rw [h.2.2.1]) (rr _ (by omega)) (rr _ (by omega)) (rr _ (by omega)) (rr _ (by omega)), de⟩, ⟨fun i hi => ?_, by rw [rr _ (by omega)]; exact r18⟩, pg, ⟨eN, fun i hi => ?_⟩, ⟨(h.1 _ (by omega) (by omega)).trans en1, en2, en3⟩, fun i hi => by rw [rr 64 (by omega)]; exact vw i hi⟩
  · rw [rr (pR13 b) (by omega), rr (pR14 b) (by omega), rr (pR18 b) (by omega), rr (pR15 b) (by omega)]
    exact ut i hi
  · rw [← cd i hi]
    show s.2.2.1 (pR0 (sKd s b)) i = σ.2.2.1 (pR0 (sKd σ b)) i
    rw [kd, rr _ (by omega)]
/-- a run stands behind it -/
theorem IC_run (h : IC XE j σ) (hj : j < 512) (h10 : ¬ σ.1 7510 = 0) (fr : HfM σ s) (hp : sPr s = some (sCur σ)) (hm : ∃ (sz : Nat) (gl : List Gn) (pr : Nat → Nat) (c : Ct), XE = some (gl, pr) ∧ PgI gl pr (sCur σ) sz (uN (σ.1 7513)) c σ ∧ CdL (sCur σ) sz σ ∧ Mst (cM c (sCur σ) σ) s ∧ uN (s.1 1903) ≤ 20000 * (j + 1)) : IC XE (j + 1) s := by
  obtain ⟨n, sz, ⟨t1, t2, t3, t4⟩, ⟨p1, p2, p3, p4, p5, p6⟩, ⟨q1, q2, q3⟩, ⟨m1, m2⟩, pp⟩ := h
  obtain ⟨sz', gl, pr, c, k2, k3, y3, ms, bg⟩ := hm
  have k0 := h10
  obtain rfl : sz' = sz := by
    have w := u_eq.1 (y3.1.symm.trans p5.1)
    have l1 := cdn_le y3
    have l2 := y3.2.1
    have l3 := p5.2.1
    rw [u_n (by omega), u_n (by omega)] at w
    exact w
  have ff := fr.1
  have sc := fr.2.2.2.1
  refine ⟨n, sz', ⟨?_, (ff 3701 (by decide) (by decide)).trans t2, by omega, by rw [fr.2.2.1]; exact t4⟩, ⟨by rw [sc, fr.2.2.2.2.1]; exact p1, fun d => ?_, by rw [(fr.2.1 41 (by omega)).2]; exact p3, by rw [(fr.2.1 42 (by omega)).2]; exact p4, by rw [sc]; exact HfM_CdL fr p5, by omega⟩, ⟨by rw [ff 7517 (by decide) (by decide), (fr.2.1 66 (by omega)).2]; exact q1, by rw [ff 7518 (by decide) (by decide)]; exact q2, by rw [ff 7513 (by decide) (by decide)]; exact q3⟩, ⟨Hmx_of ms, ms.1⟩, ?_⟩
  · unfold tOK at t1 ⊢
    rw [ff 3701 (by decide) (by decide), (fr.2.1 38 (by omega)).1, (fr.2.1 38 (by omega)).2]
    exact t1
  · have p13 := pR_13 d
    exact ⟨by rw [(fr.2.1 _ (by omega)).1]; exact (p2 d).1, by rw [(fr.2.1 _ (by omega)).1]; exact (p2 d).2⟩
  · rw [ff 7510 (by decide) (by decide), ff 7513 (by decide) (by decide), sc]
    exact Or.inr ⟨k0, gl, pr, c, k2, HfM_pg fr k3, fun _ => ⟨hp, by rw [HfM_cM fr]; exact ms, bg⟩⟩
end DYZ
