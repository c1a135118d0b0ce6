/-! Two runs side by side (reference): slices, what is drawn, what is left without one. -/
section KSL
variable {g1 g2 : Nat → Prop} {l1 l2 : List Nat} {B1 h1 B2 h2 n : Nat} {σ1 σ2 : MS}
theorem k_isSliceIn {v1 v2 p : Nat} {L1 L2 : Nat → Int32} (ov1 : σ1.2.2 28 (v1 + 1) = nI p) (ov2 : σ2.2.2 28 (v2 + 1) = nI p) (ob1 : v1 + 4 + p ≤ 1740000) (ob2 : v2 + 4 + p ≤ 1740000) (h100 : σ1.1 100 = σ2.1 100) (h101 : σ1.1 101 = σ2.1 101) (d1 : L1 1 = nI v1) (f1 : L2 1 = nI v2) : Pm n (fun k => x_isSliceIn k 0 L1 σ1) (fun k => x_isSliceIn k 0 L2 σ2) (fun r1 r2 => r1.1 = r2.1) := by
  have c1 : ∀ (m : Nat) (N1 N2 : Nat → Int32), Pm m (fun k => x_isSliceIn k 1 N1 σ1) (fun k => x_isSliceIn k 1 N2 σ2) (fun r1 r2 => r1.1 = r2.1) := fun m N1 N2 => by
    refine Pm_suc rfl (fun k => by rw [x_isSliceIn]) (fun k => by rw [x_isSliceIn]) (fun m1 _ => ?_)
    refine Pm_ob (Pm_t2 (s_fail _ σ1) (fun k => f_fail k _ _ _) (s_fail _ σ2) (fun k => f_fail k _ _ _)) (fun r1 r2 hr => Pm_some rfl)
  refine Pm_suc rfl (fun k => by rw [x_isSliceIn]) (fun k => by rw [x_isSliceIn]) (fun m1 _ => ?_)
  rw [d1, f1, n_add1, n_add1, n_cl (p := v1 + 1) (by omega), n_cl (p := v2 + 1) (by omega), ov1, ov2, h100, h101]
  refine Pm_ite Iff.rfl (fun _ _ => c1 m1 _ _) (fun _ _ => ?_)
  refine Pm_ite Iff.rfl (fun _ _ => c1 m1 _ _) (fun _ _ => ?_)
  refine Pm_chk (fun _ _ => ?_)
  refine Pm_ite Iff.rfl (fun _ _ => ?_) (fun _ _ => c1 m1 _ _)
  refine Pm_suc rfl (fun k => by rw [x_isSliceIn]) (fun k => by rw [x_isSliceIn]) (fun m2 _ => ?_)
  exact Pm_some rfl
theorem k_slice {f v1 v2 a1 a2 b1 b2 : Nat} (hS1 : HS g1 l1 B1 h1 σ1) (hS2 : HS g2 l2 B2 h2 σ2) (e1 : σ1.1 56 = 0) (e2 : σ2.1 56 = 0) (t1 : σ1.1 59 = nI f) (t2 : σ2.1 59 = nI f) (hf : f ≤ 177000) (hr1 : h1 + 4004 ≤ B1 + 870000) (hr2 : h2 + 4004 ≤ B2 + 870000) (hv1 : v1 < 3 ∨ g1 v1) (hv2 : v2 < 3 ∨ g2 v2) (hv : EVb (σ1.2.2 28) (σ2.2.2 28) v1 v2) (ha1 : a1 < 3 ∨ g1 a1) (ha2 : a2 < 3 ∨ g2 a2) (va : EVb (σ1.2.2 28) (σ2.2.2 28) a1 a2) (hb1 : b1 < 3 ∨ g1 b1) (hb2 : b2 < 3 ∨ g2 b2) (vb : EVb (σ1.2.2 28) (σ2.2.2 28) b1 b2) {L1 L2 : Nat → Int32} (d1 : L1 1 = nI v1) (f1 : L2 1 = nI v2) (d2 : L1 2 = nI a1) (f2 : L2 2 = nI a2) (d3 : L1 3 = nI b1) (f3 : L2 3 = nI b2) (hL : LEn 4 L1 L2) : Pm n (fun k => x_slice k 0 L1 σ1) (fun k => x_slice k 0 L2 σ2) (KQ h1 h2 4004) := by
  have bb1 := HS_b hS1
  have bb2 := HS_b hS2
  have xx1 := hS1.2.1
  have xx2 := hS2.2.1
  have c1 : ∀ (m : Nat) (N1 N2 : Nat → Int32) (τ1 τ2 : MS), KQ h1 h2 4004 ((0 : Int32), τ1) ((0 : Int32), τ2) → Pm m (fun k => x_slice k 1 N1 τ1) (fun k => x_slice k 1 N2 τ2) (KQ h1 h2 4004) := fun m N1 N2 τ1 τ2 hr => by
    refine Pm_suc rfl (fun k => by rw [x_slice]) (fun k => by rw [x_slice]) (fun m1 _ => ?_)
    exact Pm_some hr
  refine Pm_suc rfl (fun k => by rw [x_slice]) (fun k => by rw [x_slice]) (fun m1 _ => ?_)
  refine Pm_ob (k_isSlice hS1 hS2 hv1 hv2 hv ha1 ha2 va hb1 hb2 vb (by exact d1) (by exact f1) (by exact d2) (by exact f2) (by exact d3) (by exact f3)) (fun r1 r2 hr => ?_)
  rcases hr with ⟨hr1, hr2⟩ | ⟨q1, q2, gv, hk, x, z, y, w, hy, hw, hx, hz, s1, s2⟩
  · rw [hr1, hr2]
    exact Pm_ite Iff.rfl (fun _ _ => c1 m1 _ _ _ _ (k_er (by decide) hS1 hS2)) (fun w _ => absurd rfl w)
  rw [q1, q2, s1, s2]
  refine Pm_ite Iff.rfl (fun w _ => absurd (show (1 : Int32) = 0 from w) (by decide)) (fun _ _ => ?_)
  have hT1 : HS g1 l1 B1 h1 (mSc (mSc σ1 100 x) 101 z) := HS_c hS1 rfl rfl rfl
  have hT2 : HS g2 l2 B2 h2 (mSc (mSc σ2 100 x) 101 z) := HS_c hS2 rfl rfl rfl
  have e1' : (mSc (mSc σ1 100 x) 101 z).1 56 = 0 := e1
  have e2' : (mSc (mSc σ2 100 x) 101 z).1 56 = 0 := e2
  have t1' : (mSc (mSc σ1 100 x) 101 z).1 59 = nI f := t1
  have t2' : (mSc (mSc σ2 100 x) 101 z).1 59 = nI f := t2
  have hv' : EVb ((mSc (mSc σ1 100 x) 101 z).2.2 28) ((mSc (mSc σ2 100 x) 101 z).2.2 28) v1 v2 := hv
  have hk' : kdN ((mSc (mSc σ1 100 x) 101 z).2.2 28) v1 = 4 ∨ kdN ((mSc (mSc σ1 100 x) 101 z).2.2 28) v1 = 5 := hk
  have x1 : (mSc (mSc σ1 100 x) 101 z).1 100 = nI y ∨ (mSc (mSc σ1 100 x) 101 z).1 100 = - nI y := hx
  have z1 : (mSc (mSc σ1 100 x) 101 z).1 101 = nI w ∨ (mSc (mSc σ1 100 x) 101 z).1 101 = - nI w := hz
  have x2 : (mSc (mSc σ2 100 x) 101 z).1 100 = nI y ∨ (mSc (mSc σ2 100 x) 101 z).1 100 = - nI y := hx
  have z2 : (mSc (mSc σ2 100 x) 101 z).1 101 = nI w ∨ (mSc (mSc σ2 100 x) 101 z).1 101 = - nI w := hz
  have w1 : (mSc (mSc σ1 100 x) 101 z).1 100 = (mSc (mSc σ2 100 x) 101 z).1 100 := rfl
  have w2 : (mSc (mSc σ1 100 x) 101 z).1 101 = (mSc (mSc σ2 100 x) 101 z).1 101 := rfl
  generalize mSc (mSc σ1 100 x) 101 z = ρ1 at hT1 e1' t1' hv' hk' x1 z1 w1 w2
  generalize mSc (mSc σ2 100 x) 101 z = ρ2 at hT2 e2' t2' hv' x2 z2 w1 w2
  obtain ⟨k, p, hO⟩ := OE_of hT1 hT2 gv hv2 hv'
  obtain ⟨_, _, _, _, _, o6, o7, _, o9, o10, o11, o12, o13, o14, _, o16, o17⟩ := hO
  refine Pm_ob (Pm_un (s_isSliceIn hT1 o11 o6 o13 hy hw x1 z1 (by exact d1)) (fun k => f_isSliceIn k _ _ _) (s_isSliceIn hT2 o12 o6 o14 hy hw x2 z2 (by exact f1)) (fun k => f_isSliceIn k _ _ _) (k_isSliceIn o11 o12 o13 o14 w1 w2 (by exact d1) (by exact f1))) (fun u1 u2 hu => ?_)
  obtain ⟨hu0, hu1, hu2⟩ := hu
  rcases hu1 with hu1 | ⟨hu1, q11, q12, q13, q14, q15⟩
  · rcases hu2 with hu2 | ⟨hu2, _⟩
    · rw [hu1, hu2]
      exact Pm_ite Iff.rfl (fun _ _ => c1 m1 _ _ _ _ (k_er (by decide) hT1 hT2)) (fun w _ => absurd rfl w)
    · rw [hu1, hu2] at hu0
      exact absurd hu0 (show ¬ (0 : Int32) = 1 by decide)
  rcases hu2 with hu2 | ⟨hu2, q21, q22, _, _, _⟩
  · rw [hu1, hu2] at hu0
    exact absurd hu0 (show ¬ (1 : Int32) = 0 by decide)
  rw [hu1, hu2]
  refine Pm_ite Iff.rfl (fun w _ => absurd (show (1 : Int32) = 0 from w) (by decide)) (fun _ _ => ?_)
  show Pm m1 (fun k => x_slice k 2 L1 ρ1) (fun k => x_slice k 2 L2 ρ2) _
  refine Pm_suc rfl (fun k => by rw [x_slice]) (fun k => by rw [x_slice]) (fun m2 _ => ?_)
  rw [d1, f1, q11, q12, q21, q22, n_len (by omega) q14, show nI v1 + 3 = nI (v1 + 3) from n_add (q := 3) (by omega), show nI v2 + 3 = nI (v2 + 3) from n_add (q := 3) (by omega), n_add (p := v1 + 3) (by omega), n_add (p := v2 + 3) (by omega), n_cl (p := v1) (by omega), n_cl (p := v2) (by omega), o9, o10]
  have kk : k = 4 ∨ k = 5 := by omega
  refine Pm_chk (fun _ _ => ?_)
  refine Pm_ite Iff.rfl (fun c _ => ?_) (fun c _ => ?_)
  · have c := (n_eq (q := 4) (by omega) (by decide)).mp c
    have ca := o17 (by omega)
    have m1' := ob_at hT1 gv
    obtain ⟨p1, u11, u12, u13, u14, u15, u16, u17⟩ := ob_at hT1 gv
    obtain ⟨p2, u21, u22, u23, u24, u25, u26, u27⟩ := ob_at hT2 (kdN_ge hT2 hv2 (by rw [(EVb_sz hv').2.2]; omega))
    have i1 : p1 = p := (n_eq (by omega) (by omega)).mp (u11.symm.trans o11)
    have i2 : p2 = p := (n_eq (by omega) (by omega)).mp (u21.symm.trans o12)
    refine Pm_ob (k_stringOf28 (f1 := v1 + 3 + y) (f2 := v2 + 3 + y) (w := w + 1 - y) hT1 hT2 e1' e2' hr1 hr2 (by omega) (fun _ => by omega) (fun _ => by omega) (fun i hi => ?_) rfl rfl rfl rfl) (fun r1 r2 hr => Pm_some hr)
    rw [show v1 + 3 + y + i = v1 + 4 + (y - 1 + i) by omega, show v2 + 3 + y + i = v2 + 4 + (y - 1 + i) by omega]
    exact (ca (y - 1 + i) (by omega)).symm
  have k5 : 5 ≤ k := by
    rcases kk with e | e
    · exact absurd (by rw [e]; rfl) c
    · omega
  have ca := o16 k5
  have lp : ∀ (m i : Nat) (N1 N2 : Nat → Int32) (τ1 τ2 : MS), i ≤ w + 1 - y → LEn 4 N1 N2 → N1 1 = nI v1 → N2 1 = nI v2 → N1 4 = nI (w + 1 - y) → N1 5 = nI f → N1 6 = nI i → KPu g1 g2 f i ρ1 ρ2 τ1 τ2 → Pm m (fun k => x_slice k 4 N1 τ1) (fun k => x_slice k 4 N2 τ2) (KQ h1 h2 4004) := by
    intro m
    induction m using Nat.strongRecOn with
    | ind m ih =>
    intro i N1 N2 τ1 τ2 hi hN x1 y1 x4 x5 x6 hK
    have y4 : N2 4 = nI (w + 1 - y) := (hN 4 (by omega)).symm.trans x4
    have y5 : N2 5 = nI f := (hN 5 (by omega)).symm.trans x5
    have y6 : N2 6 = nI i := (hN 6 (by omega)).symm.trans x6
    have a28 : τ1.2.2 28 = ρ1.2.2 28 := hK.1.2.1 28 (by decide)
    have b28 : τ2.2.2 28 = ρ2.2.2 28 := hK.2.1.2.1 28 (by decide)
    have a100 : τ1.1 100 = nI y := (hK.1.1 100 (by decide)).trans q11
    have b100 : τ2.1 100 = nI y := (hK.2.1.1 100 (by decide)).trans q21
    refine Pm_suc rfl (fun k => by rw [x_slice]) (fun k => by rw [x_slice]) (fun k1 hk1 => ?_)
    rw [x1, y1, x4, y4, x6, y6, a28, b28, a100, b100]
    refine Pm_ite Iff.rfl (fun y _ => ?_) (fun y' _ => ?_)
    · refine Pm_suc rfl (fun k => by rw [x_slice]) (fun k => by rw [x_slice]) (fun k2 hk2 => ?_)
      exact Pm_ob (k_tupP hK hT1 hT2 e1' e2' (by omega) (by omega) (by omega) (by exact x5) (by exact y5)) (fun r1 r2 hr => Pm_some (KQ_mo hr (by omega)))
    have hip : i < w + 1 - y := by
      by_cases e : w + 1 - y ≤ i
      · exact absurd ((n_le (by omega) (by omega)).mpr e) y'
      · omega
    rw [show nI v1 + 3 = nI (v1 + 3) from n_add (q := 3) (by omega), show nI v2 + 3 = nI (v2 + 3) from n_add (q := 3) (by omega), n_add (p := v1 + 3) (by omega), n_add (p := v2 + 3) (by omega), n_add (p := v1 + 3 + y) (by omega), n_add (p := v2 + 3 + y) (by omega), n_cl (p := v1 + 3 + y + i) (by omega), n_cl (p := v2 + 3 + y + i) (by omega)]
    refine Pm_chk (fun _ _ => ?_)
    have hc : VC g1 g2 (ρ1.2.2 28) (ρ2.2.2 28) (ρ1.2.2 28 (v1 + 3 + y + i)) (ρ2.2.2 28 (v2 + 3 + y + i)) := by
      rw [show v1 + 3 + y + i = v1 + 4 + (y - 1 + i) by omega, show v2 + 3 + y + i = v2 + 4 + (y - 1 + i) by omega]
      exact ca (y - 1 + i) (by omega)
    exact Pm_ob (k_push hK (by omega) hc rfl rfl) (fun r1 r2 hr => ih k1 (by omega) (i + 1) _ _ _ _ (by omega) (LEn_u hN rfl) x1 y1 x4 x5 (by show nI i + 1 = _; rw [n_add1]) hr)
  refine Pm_suc rfl (fun k => by rw [x_slice]) (fun k => by rw [x_slice]) (fun m3 _ => ?_)
  rw [t1', t2']
  exact lp m3 0 _ _ _ _ (Nat.zero_le _) (LEn_u (LEn_u (LEn_u hL rfl) rfl) rfl) d1 f1 rfl rfl rfl (KPu_0 t1' t2')
end KSL
