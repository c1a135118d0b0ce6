/-! The house behind the machine and behind showing (made by rs566.py). -/
section DZO
variable {σ s s1 : CS} {b : Bool} {N M n sz sz' V j : Nat} {c c' : Ct} {gl : List Gn} {pr : Nat → Nat} {XE : XEt} {L : LV} {x : Int32} {g : Nat → Prop}
/-- what machine and showing leave of the house -/
def HfN (σ s : CS) : Prop := (∀ i, 3700 ≤ i → ¬ (i = 7511 ∨ i = 7517 ∨ i = 7518 ∨ i = 7519) → s.1 i = σ.1 i) ∧ (∀ k, k = 38 ∨ (41 ≤ k ∧ k ≤ 64) ∨ (69 ≤ k ∧ k ≤ 74) → s.2.2.1 k = σ.2.2.1 k ∧ sN s k = sN σ k) ∧ s.2.2.2.1 = σ.2.2.2.1 ∧ (sCur s = sCur σ ∧ sOt s = sOt σ ∧ sKd s = sKd σ)
theorem HfN_sw (h : SwF σ s) : HfN σ s := by
  obtain ⟨k1, k2, k3, k4, k5, k6⟩ := SwF_M h
  exact ⟨fun i h1 h2 => k1 i h1 (by omega), fun k hk => k2 k (by omega), h.2.1.2.2, k3, k4, k6⟩
theorem HfN_9 : HfN σ (uI σ 7519 x) := ⟨fun i _ h2 => uI_o (by omega), fun _ _ => ⟨rfl, rfl⟩, rfl, ⟨rfl, rfl, rfl⟩⟩
theorem HfN_t {s2 : CS} (a : HfN σ s) (d : HfN s s2) : HfN σ s2 := ⟨fun i h1 h2 => (d.1 i h1 h2).trans (a.1 i h1 h2), fun k hk => ⟨(d.2.1 k hk).1.trans (a.2.1 k hk).1, (d.2.1 k hk).2.trans (a.2.1 k hk).2⟩, d.2.2.1.trans a.2.2.1, ⟨d.2.2.2.1.trans a.2.2.2.1, d.2.2.2.2.1.trans a.2.2.2.2.1, d.2.2.2.2.2.trans a.2.2.2.2.2⟩⟩
theorem HfN_m (h : MFr σ s) : HfN σ s := by
  obtain ⟨h1, h2, h3, h4, h5⟩ := h
  have e5 : s.2.2.2.2.2.1 = σ.2.2.2.2.2.1 := h5
  refine ⟨fun i a b => h1 i (by omega), fun k hk => h3 k (fun z => by unfold rwM at z; omega), h4, ⟨?_, ?_, ?_⟩⟩
  · show s.2.2.2.2.2.1.1 = _; rw [e5]
  · show s.2.2.2.2.2.1.2.1 = _; rw [e5]
  · show s.2.2.2.2.2.1.2.2.2.2 = _; rw [e5]
theorem HfN_cM (h : HfN σ s) : cM c b s = cM c b σ := by
  have p13 := pR_13 b
  have p0 := pR0_c (sKd σ b)
  have kd := h.2.2.2.2.2
  unfold cM
  show (s.2.2.1 (pR0 (sKd s b)), sN s (pR0 (sKd s b)), (fun u => uN (s.2.2.1 (pR13 b) u)), (fun u => uN (s.2.2.1 (pR14 b) u)), (fun u => uN (s.2.2.1 (pR18 b) u)), tcK c, tcD c) = _
  rw [kd, (h.2.1 (pR0 (sKd σ b)) (by omega)).1, (h.2.1 (pR0 (sKd σ b)) (by omega)).2, (h.2.1 (pR13 b) (by omega)).1, (h.2.1 (pR14 b) (by omega)).1, (h.2.1 (pR18 b) (by omega)).1]
theorem HfN_CdL (h : HfN σ s) (cd : CdL b sz σ) : CdL b sz s := by
  have p0 := pR0_c (sKd σ b)
  have kd := h.2.2.2.2.2
  have fc := fP_c b 1
  have en : cdn b s = cdn b σ := by
    show sN s (pR0 (sKd s b)) = sN σ (pR0 (sKd σ b))
    rw [kd, (h.2.1 (pR0 (sKd σ b)) (by omega)).2]
  exact ⟨(h.1 _ (by omega) (by omega)).trans cd.1, by rw [en]; exact cd.2.1, by rw [en, (h.2.1 43 (by omega)).2, (h.2.1 51 (by omega)).2]; exact cd.2.2⟩
theorem HfN_pg (h : HfN σ s) (p : PgI gl pr b sz V c σ) : PgI gl pr b sz V c s := by
  have p13 := pR_13 b
  have p0 := pR0_c (sKd σ b)
  have kd := h.2.2.2.2.2
  have fc := fP_c b 2
  have fc11 := fP_c b 11
  obtain ⟨E, nu, vg, e0, MD, e, ⟨tb, de⟩, ⟨ut, r18⟩, pg, ⟨eN, cd⟩, ⟨en1, en2, en3⟩, vw⟩ := p
  have rr : ∀ k, 41 ≤ k ∧ k ≤ 64 ∨ 69 ≤ k ∧ k ≤ 74 → s.2.2.1 k = σ.2.2.1 k := fun k hk => (h.2.1 k (by omega)).1
  refine ⟨E, nu, vg, e0, MD, e, ⟨TbR_s tb (h.1 _ (by omega) (by omega)) (by rw [h.2.2.1]) (by rw [h.2.2.1]) (rr _ (by omega)) (rr _ (by omega)) (rr _ (by omega)) (rr _ (by omega)), de⟩, ⟨fun i hi => ?_, by rw [rr _ (by omega)]; exact r18⟩, pg, ⟨eN, fun i hi => ?_⟩, ⟨(h.1 _ (by omega) (by omega)).trans en1, en2, en3⟩, fun i hi => by rw [rr 64 (by omega)]; exact vw i hi⟩
  · rw [rr (pR13 b) (by omega), rr (pR14 b) (by omega), rr (pR18 b) (by omega), rr (pR15 b) (by omega)]
    exact ut i hi
  · rw [← cd i hi]
    show s.2.2.1 (pR0 (sKd s b)) i = σ.2.2.1 (pR0 (sKd σ b)) i
    rw [kd, rr _ (by omega)]
theorem IC_runN (h : IC XE j σ) (hj : j < 512) (h10 : ¬ σ.1 7510 = 0) (fr : HfN σ s) (hp : sPr s = some (sCur σ)) (q17 : uN (s.1 7517) ≤ sN s 66) (q18 : uN (s.1 7518) ≤ 2) (hm : ∃ (sz : Nat) (gl : List Gn) (pr : Nat → Nat) (c : Ct), XE = some (gl, pr) ∧ PgI gl pr (sCur σ) sz (uN (σ.1 7513)) c σ ∧ CdL (sCur σ) sz σ ∧ Mst (cM c (sCur σ) σ) s ∧ uN (s.1 1903) ≤ 20000 * (j + 1)) : IC XE (j + 1) s := by
  obtain ⟨n, sz, ⟨t1, t2, t3, t4⟩, ⟨p1, p2, p3, p4, p5, p6⟩, ⟨q1, q2, q3⟩, ⟨m1, m2⟩, pp⟩ := h
  obtain ⟨sz', gl, pr, c, k2, k3, y3, ms, bg⟩ := hm
  have k0 := h10
  obtain rfl : sz' = sz := by
    have w := u_eq.1 (y3.1.symm.trans p5.1)
    have l1 := cdn_le y3
    have l2 := y3.2.1
    have l3 := p5.2.1
    rw [u_n (by omega), u_n (by omega)] at w
    exact w
  have ff := fr.1
  have sc := fr.2.2.2.1
  refine ⟨n, sz', ⟨?_, (ff 3701 (by decide) (by decide)).trans t2, by omega, by rw [fr.2.2.1]; exact t4⟩, ⟨by rw [sc, fr.2.2.2.2.1]; exact p1, fun d => ?_, by rw [(fr.2.1 41 (by omega)).2]; exact p3, by rw [(fr.2.1 42 (by omega)).2]; exact p4, by rw [sc]; exact HfN_CdL fr p5, by omega⟩, ⟨q17, q18, by rw [ff 7513 (by decide) (by decide)]; exact q3⟩, ⟨Hmx_of ms, ms.1⟩, ?_⟩
  · unfold tOK at t1 ⊢
    rw [ff 3701 (by decide) (by decide), (fr.2.1 38 (by omega)).1, (fr.2.1 38 (by omega)).2]
    exact t1
  · have p13 := pR_13 d
    exact ⟨by rw [(fr.2.1 _ (by omega)).1]; exact (p2 d).1, by rw [(fr.2.1 _ (by omega)).1]; exact (p2 d).2⟩
  · rw [ff 7510 (by decide) (by decide), ff 7513 (by decide) (by decide), sc]
    exact Or.inr ⟨k0, gl, pr, c, k2, HfN_pg fr k3, fun _ => ⟨hp, by rw [HfN_cM fr]; exact ms, bg⟩⟩
theorem IC_cl0 (t3 : n ≤ 20 * j) (t4 : σ.2.2.2.1 39 = lxW) (p1 : sOt σ = !(sCur σ)) (p2 : ∀ b, σ.2.2.1 (pR18 b) 41 = 0 ∧ σ.2.2.1 (pR14 b) 41 = 0) (p4 : sN σ 42 = 64 ∨ sN σ 42 = 16384) (p6 : 2 * sz + 7 * (n + 20 * (512 - j)) ≤ 71682) (q1 : uN (σ.1 7517) ≤ sN σ 66) (q2 : uN (σ.1 7518) ≤ 2) (m1 : Hmx σ) (m2 : BY False σ) (k0 : ¬ σ.1 7510 = 0) (hX : XE = some (gl, pr)) (k4 : ¬ σ.1 7511 = 0 → sPr σ = some (sCur σ) ∧ Mst (cM c (sCur σ) σ) σ ∧ uN (σ.1 1903) ≤ 20000 * j) (hj : j < 512) (rx : RxF (sCur σ) N M n σ s1) (vr : VwZ s1 s) (e37 : s.1 3701 = 0) (h67 : ∀ g : Nat → Prop, (∀ i, i < 27 → Gv g (σ.2.2.1 67 i)) → ∀ i, i < 27 → Gv g (s.2.2.1 67 i)) (v8 : uN (s.1 7513) ≤ 8) (cd' : CdL (sCur σ) sz' s) (bd : 2 * sz' ≤ 2 * sz + 7 * n) (kk : tcK c' = tcK c) (dd : ∀ p x, tcD c p = some x → tcD c' p = some x) (pg' : PgI gl pr (sCur σ) sz' (uN (s.1 7513)) c' s) : IC XE j s := by
  have fc1 := fP_c (sCur σ) 1
  have fc11 := fP_c (sCur σ) 11
  have fc19 := fP_c (sCur σ) 19
  have p13 := pR_13 (sCur σ)
  have px := vr_x rx vr
  have by0 := vr_by rx vr m2
  have sc : sCur s = sCur σ := by show s.2.2.2.2.2.1.1 = _; rw [vr.2.2.2]; exact rx.2.2.1.1.1
  have so : sOt s = sOt σ := by show s.2.2.2.2.2.1.2.1 = _; rw [vr.2.2.2]; exact rx.2.2.1.1.2.1
  have sp : sPr s = sPr σ := by show s.2.2.2.2.2.1.2.2.1 = _; rw [vr.2.2.2]; exact rx.2.2.1.1.2.2
  have ff : ∀ i, ¬ (i = 404 ∨ (3701 ≤ i ∧ i ≤ 3704) ∨ (4003 ≤ i ∧ i ≤ 4020) ∨ (5000 ≤ i ∧ i ≤ 5019) ∨ (6800 ≤ i ∧ i ≤ 6819) ∨ i = 7512 ∨ i = 7513 ∨ i = 7519) → s.1 i = σ.1 i := fun i hi => (vr.1 i (by omega)).trans (rx.1.1 i (by omega))
  have nn := vr_n vr
  have e10 : s.1 7510 = σ.1 7510 := ff 7510 (by decide)
  have e11 : s.1 7511 = σ.1 7511 := ff 7511 (by decide)
  have hm : Hmx s ∧ (¬ s.1 7511 = 0 → sPr s = some (sCur s) ∧ Mst (cM c' (sCur s) s) s ∧ uN (s.1 1903) ≤ 20000 * j) := by
    by_cases c11 : σ.1 7511 = 0
    · obtain ⟨g, l, t, K4, hb⟩ := m1
      exact ⟨⟨g, l, t, K4, Hmb_xx px (h67 g (fun i hi => (hb.2.2.2.1 i hi).2.1 rfl)) hb⟩, fun z => absurd (e11.trans c11) z⟩
    · obtain ⟨y1, y2, y3⟩ := k4 c11
      obtain ⟨g, l, t, mg⟩ := Mst_G y2
      have mg2 := MsG_xx (vr_ct rx vr (p2 _).1 (p2 _).2 kk dd) px (ct_M (c := c') (sp.trans y1)) by0 (h67 g (MsG_v mg).2) mg
      have ms2 := Mst_of mg2
      have e9 : s.1 1903 = σ.1 1903 := ff 1903 (by decide)
      exact ⟨Hmx_of ms2, fun _ => ⟨by rw [sc]; exact sp.trans y1, by rw [sc]; exact ms2, by rw [e9]; exact y3⟩⟩
  have lx : s.2.2.2.1 39 = lxW := by rw [vr.2.2.2, rx.2.1.2.2 39 (by omega)]; exact t4
  refine ⟨0, sz', ⟨vr_ok rx vr e37, e37, Nat.zero_le _, lx⟩, ⟨by rw [sc, so]; exact p1, fun d => vr_0 rx vr p2 d, by rw [nn]; exact rx.2.2.2.2.2.2.2.1, by rw [nn, rx.2.1.2.1 42 (by omega)]; exact p4, by rw [sc]; exact cd', by omega⟩, ⟨by rw [ff 7517 (by decide), nn, rx.2.1.2.1 66 (by omega)]; exact q1, by rw [ff 7518 (by decide)]; exact q2, v8⟩, ⟨hm.1, by0⟩, Or.inr ⟨by rw [e10]; exact k0, gl, pr, c', hX, by rw [sc]; exact pg', hm.2⟩⟩
end DZO
