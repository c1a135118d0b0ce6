/-! The house behind an exp that was read. -/
section DZM
variable {σ s s1 : CS} {b : Bool} {N N0 M W n sz sz' V vg nu F j : Nat} {E : En} {c c' : Ct} {MD : Nat → Nat → Nat} {tb : List Ent} {gl : List Gn} {pr : Nat → Nat} {XE : XEt}
/-- the house's own numbers and rows -/
def VwZ (s1 s : CS) : Prop := (∀ j, ¬ (j = 3701 ∨ j = 7512 ∨ j = 7513 ∨ j = 7519) → s.1 j = s1.1 j) ∧ s.2.1 = s1.2.1 ∧ (∀ k, ¬ (k = 64 ∨ k = 65 ∨ k = 67) → s.2.2.1 k = s1.2.2.1 k) ∧ s.2.2.2 = s1.2.2.2
theorem vr_n (vr : VwZ s1 s) : sN s = sN s1 := by show s.2.2.2.2.1 = _; rw [vr.2.2.2]
theorem vr_tb (rx : RxF b N tb.length n σ s1) (vr : VwZ s1 s) (e11 : s1.1 (fP b 11) = nI tb.length) (h : TbR b tb σ) : TbR b tb s := by
  have fc11 := fP_c b 11
  have p13 := pR_13 b
  obtain ⟨v1, v2, v3, v4⟩ := vr
  refine ⟨(v1 _ (by omega)).trans e11, h.2.1, fun i hi => ?_⟩
  obtain ⟨⟨y1, y2⟩, ⟨y3, y4⟩, y5, y6⟩ := rx.2.2.2.2.1 i hi
  rw [v4, v3 (pR7 b) (by omega), v3 (pR8 b) (by omega), v3 (pR9 b) (by omega), v3 (pR10 b) (by omega), y1, y2, y3, y4, y5, y6]
  exact h.2.2 i hi
theorem vr_ut (rx : RxF b N M n σ s1) (vr : VwZ s1 s) (nu40 : nu ≤ 40) (h : UTb b nu c MD σ) : UTb b nu c MD s := fun i hi => by
  have p13 := pR_13 b
  obtain ⟨v1, v2, v3, v4⟩ := vr
  obtain ⟨y1, y2, y3, y4⟩ := rx.2.2.2.1.1 (i + 1) (by omega)
  rw [v3 (pR13 b) (by omega), v3 (pR14 b) (by omega), v3 (pR15 b) (by omega), v3 (pR18 b) (by omega), y1, y2, y3, y4]
  exact h i hi
theorem vr_18 (rx : RxF b N M n σ s1) (vr : VwZ s1 s) : s.2.2.1 (pR18 b) 0 = σ.2.2.1 (pR18 b) 0 := by
  have p13 := pR_13 b
  rw [vr.2.2.1 (pR18 b) (by omega)]
  exact (rx.2.2.2.1.1 0 (by decide)).2.2.2
theorem vr_cd (rx : RxF b N M n σ s1) (vr : VwZ s1 s) : (∀ i, cdr b s i = cdr b s1 i) ∧ cdn b s = cdn b s1 := by
  have p0 := pR0_c (sKd s1 b)
  have kd : sKd s = sKd s1 := by show s.2.2.2.2.2.1.2.2.2.2 = _; rw [vr.2.2.2]
  refine ⟨fun i => ?_, ?_⟩
  · show s.2.2.1 (pR0 (sKd s b)) i = s1.2.2.1 (pR0 (sKd s1 b)) i
    rw [kd, vr.2.2.1 _ (by omega)]
  · show sN s (pR0 (sKd s b)) = sN s1 (pR0 (sKd s1 b))
    rw [kd, vr_n vr]
theorem vr_x (rx : RxF b N M n σ s1) (vr : VwZ s1 s) : PFx σ s := by
  have fc1 := fP_c b 1
  have fc11 := fP_c b 11
  have fc19 := fP_c b 19
  have p13 := pR_13 b
  refine ⟨⟨fun j hj h4 => (vr.1 j (by omega)).trans (rx.1.1 j (by omega)), fun j hj => by rw [vr.2.1]; exact rx.1.2 j (by omega)⟩, fun k hk => ⟨(vr.2.2.1 k (by omega)).trans (rx.2.1.1 k (by omega)), by rw [vr_n vr]; exact rx.2.1.2.1 k (by omega)⟩, ?_⟩
  rw [vr.2.2.2]
  exact rx.2.2.1.2.2
theorem vr_by (rx : RxF b N M n σ s1) (vr : VwZ s1 s) (h : BY False σ) : BY False s := by
  have fc1 := fP_c b 1
  have fc11 := fP_c b 11
  have fc19 := fP_c b 19
  have p13 := pR_13 b
  unfold BY at h ⊢
  rw [vr_n vr, rx.2.1.2.1 22 (by omega), rx.2.1.2.1 66 (by omega), vr.2.2.1 13 (by omega), vr.2.2.1 22 (by omega), vr.2.2.1 66 (by omega), rx.2.1.1 13 (by omega), rx.2.1.1 22 (by omega), rx.2.1.1 66 (by omega), vr.1 1812 (by omega), vr.1 1813 (by omega), vr.1 1907 (by omega), rx.1.1 1812 (by omega), rx.1.1 1813 (by omega), rx.1.1 1907 (by omega)]
  exact h
theorem vr_rw (rx : RxF b N M n σ s1) (vr : VwZ s1 s) (h18 : σ.2.2.1 (pR18 b) 41 = 0) (h14 : σ.2.2.1 (pR14 b) 41 = 0) : s.2.2.1 (pR14 b) = σ.2.2.1 (pR14 b) ∧ s.2.2.1 (pR18 b) = σ.2.2.1 (pR18 b) := by
  have p13 := pR_13 b
  rw [vr.2.2.1 (pR14 b) (by omega), vr.2.2.1 (pR18 b) (by omega)]
  refine ⟨funext (fun i => ?_), funext (fun i => ?_)⟩
  · by_cases e : i = 41
    · rw [e, h14]; exact rx.2.2.2.1.2.1
    · exact (rx.2.2.2.1.1 i e).2.1
  · by_cases e : i = 41
    · rw [e, h18]; exact rx.2.2.2.1.2.2
    · exact (rx.2.2.2.1.1 i e).2.2.2
theorem vr_ct (rx : RxF b N M n σ s1) (vr : VwZ s1 s) (h18 : σ.2.2.1 (pR18 b) 41 = 0) (h14 : σ.2.2.1 (pR14 b) 41 = 0) (kk : tcK c' = tcK c) (dd : ∀ p x, tcD c p = some x → tcD c' p = some x) : CtX (cM c b σ) (cM c' b s) := by
  obtain ⟨e1, e2⟩ := vr_rw rx vr h18 h14
  refine ⟨?_, ?_, kk, dd⟩
  · show (fun u => uN (s.2.2.1 (pR14 b) u)) = fun u => uN (σ.2.2.1 (pR14 b) u)
    rw [e1]
  · show (fun u => uN (s.2.2.1 (pR18 b) u)) = fun u => uN (σ.2.2.1 (pR18 b) u)
    rw [e2]
theorem vr_0 (rx : RxF b N M n σ s1) (vr : VwZ s1 s) (h : ∀ d, σ.2.2.1 (pR18 d) 41 = 0 ∧ σ.2.2.1 (pR14 d) 41 = 0) (d : Bool) : s.2.2.1 (pR18 d) 41 = 0 ∧ s.2.2.1 (pR14 d) 41 = 0 := by
  by_cases e : d = b
  · rw [e]
    obtain ⟨e1, e2⟩ := vr_rw rx vr (h b).1 (h b).2
    rw [e1, e2]
    exact h b
  · have q1 : s.2.2.1 (pR18 d) = σ.2.2.1 (pR18 d) := (vr.2.2.1 _ (by cases d <;> decide)).trans (rx.2.1.1 _ (by cases d <;> cases b <;> first | exact absurd rfl e | decide))
    have q2 : s.2.2.1 (pR14 d) = σ.2.2.1 (pR14 d) := (vr.2.2.1 _ (by cases d <;> decide)).trans (rx.2.1.1 _ (by cases d <;> cases b <;> first | exact absurd rfl e | decide))
    rw [q1, q2]
    exact h d
theorem vr_ok (rx : RxF b N M n σ s1) (vr : VwZ s1 s) (e37 : s.1 3701 = 0) : tOK s := by
  obtain ⟨h1, h2, h3, h4, h5, _⟩ := rx.2.2.2.2.2.2.2.2
  unfold tOK
  rw [e37, vr_n vr, vr.2.2.1 38 (by omega)]
  have z0 : (0 : Int32).toInt = 0 := rfl
  exact ⟨by omega, by omega, by omega, h4, h5⟩
/-- the house stands behind it -/
theorem IC_cl (t3 : n ≤ 20 * j) (t4 : σ.2.2.2.1 39 = lxW) (p1 : sOt σ = !(sCur σ)) (p2 : ∀ b, σ.2.2.1 (pR18 b) 41 = 0 ∧ σ.2.2.1 (pR14 b) 41 = 0) (p4 : sN σ 42 = 64 ∨ sN σ 42 = 16384) (p6 : 2 * sz + 7 * (n + 20 * (512 - j)) ≤ 71682) (q1 : uN (σ.1 7517) ≤ sN σ 66) (q2 : uN (σ.1 7518) ≤ 2) (m1 : Hmx σ) (m2 : BY False σ) (k0 : ¬ σ.1 7510 = 0) (hX : XE = some (gl, pr)) (k4 : ¬ σ.1 7511 = 0 → sPr σ = some (sCur σ) ∧ Mst (cM c (sCur σ) σ) σ ∧ uN (σ.1 1903) ≤ 20000 * j) (hj : j < 512) (rx : RxF (sCur σ) N M n σ s1) (vr : VwZ s1 s) (e37 : s.1 3701 = 0) (h67 : ∀ g : Nat → Prop, (∀ i, i < 27 → Gv g (σ.2.2.1 67 i)) → ∀ i, i < 27 → Gv g (s.2.2.1 67 i)) (v8 : uN (s.1 7513) ≤ 8) (cd' : CdL (sCur σ) sz' s) (bd : 2 * sz' ≤ 2 * sz + 7 * n + 140) (kk : tcK c' = tcK c) (dd : ∀ p x, tcD c p = some x → tcD c' p = some x) (pg' : PgI gl pr (sCur σ) sz' (uN (s.1 7513)) c' s) : IC XE (j + 1) s := by
  have fc1 := fP_c (sCur σ) 1
  have fc11 := fP_c (sCur σ) 11
  have fc19 := fP_c (sCur σ) 19
  have p13 := pR_13 (sCur σ)
  have px := vr_x rx vr
  have by0 := vr_by rx vr m2
  have sc : sCur s = sCur σ := by show s.2.2.2.2.2.1.1 = _; rw [vr.2.2.2]; exact rx.2.2.1.1.1
  have so : sOt s = sOt σ := by show s.2.2.2.2.2.1.2.1 = _; rw [vr.2.2.2]; exact rx.2.2.1.1.2.1
  have sp : sPr s = sPr σ := by show s.2.2.2.2.2.1.2.2.1 = _; rw [vr.2.2.2]; exact rx.2.2.1.1.2.2
  have ff : ∀ i, ¬ (i = 404 ∨ (3701 ≤ i ∧ i ≤ 3704) ∨ (4003 ≤ i ∧ i ≤ 4020) ∨ (5000 ≤ i ∧ i ≤ 5019) ∨ (6800 ≤ i ∧ i ≤ 6819) ∨ i = 7512 ∨ i = 7513 ∨ i = 7519) → s.1 i = σ.1 i := fun i hi => (vr.1 i (by omega)).trans (rx.1.1 i (by omega))
  have nn := vr_n vr
  have e10 : s.1 7510 = σ.1 7510 := ff 7510 (by decide)
  have e11 : s.1 7511 = σ.1 7511 := ff 7511 (by decide)
  have hm : Hmx s ∧ (¬ s.1 7511 = 0 → sPr s = some (sCur s) ∧ Mst (cM c' (sCur s) s) s ∧ uN (s.1 1903) ≤ 20000 * (j + 1)) := by
    by_cases c11 : σ.1 7511 = 0
    · obtain ⟨g, l, t, K4, hb⟩ := m1
      exact ⟨⟨g, l, t, K4, Hmb_xx px (h67 g (fun i hi => (hb.2.2.2.1 i hi).2.1 rfl)) hb⟩, fun z => absurd (e11.trans c11) z⟩
    · obtain ⟨y1, y2, y3⟩ := k4 c11
      obtain ⟨g, l, t, mg⟩ := Mst_G y2
      have mg2 := MsG_xx (vr_ct rx vr (p2 _).1 (p2 _).2 kk dd) px (ct_M (c := c') (sp.trans y1)) by0 (h67 g (MsG_v mg).2) mg
      have ms2 := Mst_of mg2
      have e9 : s.1 1903 = σ.1 1903 := ff 1903 (by decide)
      exact ⟨Hmx_of ms2, fun _ => ⟨by rw [sc]; exact sp.trans y1, by rw [sc]; exact ms2, by rw [e9]; omega⟩⟩
  have lx : s.2.2.2.1 39 = lxW := by rw [vr.2.2.2, rx.2.1.2.2 39 (by omega)]; exact t4
  refine ⟨0, sz', ⟨vr_ok rx vr e37, e37, Nat.zero_le _, lx⟩, ⟨by rw [sc, so]; exact p1, fun d => vr_0 rx vr p2 d, by rw [nn]; exact rx.2.2.2.2.2.2.2.1, by rw [nn, rx.2.1.2.1 42 (by omega)]; exact p4, by rw [sc]; exact cd', by omega⟩, ⟨by rw [ff 7517 (by decide), nn, rx.2.1.2.1 66 (by omega)]; exact q1, by rw [ff 7518 (by decide)]; exact q2, v8⟩, ⟨hm.1, by0⟩, Or.inr ⟨by rw [e10]; exact k0, gl, pr, c', hX, by rw [sc]; exact pg', hm.2⟩⟩
end DZM
