/-! Two runs side by side (reference): members of sets. -/
/-- two objects that hold the same -/
def OE (g1 g2 : Nat → Prop) (H1 H2 : Nat → Int32) (v1 v2 k p : Nat) : Prop := g1 v1 ∧ g2 v2 ∧ 3 ≤ v1 ∧ 3 ≤ v2 ∧ (2 ≤ k ∧ k ≤ 6) ∧ p ≤ 3996 ∧ kdN H1 v1 = k ∧ kdN H2 v2 = k ∧ H1 v1 = nI k ∧ H2 v2 = nI k ∧ H1 (v1 + 1) = nI p ∧ H2 (v2 + 1) = nI p ∧ v1 + 4 + p ≤ 1740000 ∧ v2 + 4 + p ≤ 1740000 ∧ EVb H1 H2 v1 v2 ∧ (5 ≤ k → ∀ i, i < p → VC g1 g2 H1 H2 (H1 (v1 + 4 + i)) (H2 (v2 + 4 + i))) ∧ (k < 5 → ∀ i, i < p → H2 (v2 + 4 + i) = H1 (v1 + 4 + i))
section KHA
variable {g1 g2 : Nat → Prop} {l1 l2 : List Nat} {B1 h1 B2 h2 n : Nat} {σ1 σ2 : MS}
theorem OE_of (hS1 : HS g1 l1 B1 h1 σ1) (hS2 : HS g2 l2 B2 h2 σ2) {v1 v2 : Nat} (hv1 : g1 v1) (hv2 : v2 < 3 ∨ g2 v2) (hv : EVb (σ1.2.2 28) (σ2.2.2 28) v1 v2) : ∃ k p, OE g1 g2 (σ1.2.2 28) (σ2.2.2 28) v1 v2 k p := by
  obtain ⟨k, p, ga2, c3, c4, k6, hp, k2, kk, ka1, ka2, pa1, pa2, q1, q2⟩ := EVb_ob hS1 hS2 hv1 hv hv2
  have kk2 : kdN (σ2.2.2 28) v2 = k := ((EVb_sz hv).2.2).trans kk
  obtain ⟨i5, i6, i2⟩ := k56 k6.2
  refine ⟨k, p, hv1, ga2, c3, c4, k6, hp, kk, kk2, ka1, ka2, pa1, pa2, q1, q2, hv, fun h5 i hi => ?_, fun h4 i hi => ?_⟩
  · have hk : σ1.2.2 28 v1 = nI 5 ∨ σ1.2.2 28 v1 = nI 6 := by
      rw [ka1]
      have : k = 5 ∨ k = 6 := by omega
      exact this.imp (fun e => by rw [e]) (fun e => by rw [e])
    obtain ⟨c, d, c1, c2, d1, d2, cd⟩ := EVb_mem hv c3 hk pa1 hp hi
    have m1 := (htN_ch hS1 hv1 (by omega) pa1 hp hi c1 c2).1
    have m2 := (htN_ch hS2 ga2 (by omega) pa2 hp hi d1 d2).1
    exact ⟨c, d, c1, m1, d1, m2, cd, c2, d2⟩
  · refine EVb_raw hv c3 ?_ pa1 hp hi
    rw [ka1]
    intro z
    rcases z with z | z
    · have := i5.mp z; omega
    · have := i6.mp z; omega
theorem k_has {s1 s2 k p x1 x2 : Nat} (hS1 : HS g1 l1 B1 h1 σ1) (hS2 : HS g2 l2 B2 h2 σ2) (hO : OE g1 g2 (σ1.2.2 28) (σ2.2.2 28) s1 s2 k p) (hk : 5 ≤ k) (hx : VC g1 g2 (σ1.2.2 28) (σ2.2.2 28) (nI x1) (nI x2)) (hx1 : x1 < 1740000) (hx2 : x2 < 1740000) {L1 L2 : Nat → Int32} (d1 : L1 1 = nI s1) (d2 : L1 2 = nI x1) (f1 : L2 1 = nI s2) (f2 : L2 2 = nI x2) (hL : LE3 L1 L2) : Pm n (fun k => x_has k 0 L1 σ1) (fun k => x_has k 0 L2 σ2) (fun r1 r2 => r1.1 = r2.1) := by
  obtain ⟨o1, o2, o3, o4, o5, o6, o7, o8, o9, o10, o11, o12, o13, o14, o15, o16, o17⟩ := hO
  have hcell := o16 hk
  obtain ⟨y1, y2, z1, z2, z3, z4, z5, z6, z7⟩ := hx
  have ey1 : x1 = y1 := (n_eq (by omega) (by omega)).mp z1
  have ey2 : x2 = y2 := (n_eq (by omega) (by omega)).mp z3
  subst ey1
  subst ey2
  have lp : ∀ (m a b : Nat) (N1 N2 : Nat → Int32), a ≤ p → b ≤ p → LE3 N1 N2 → N1 1 = nI s1 → N1 2 = nI x1 → N2 1 = nI s2 → N2 2 = nI x2 → N1 3 = nI a → N1 4 = nI b - 1 → Pm m (fun k => x_has k 1 N1 σ1) (fun k => x_has k 1 N2 σ2) (fun r1 r2 => r1.1 = r2.1) := by
    intro m
    induction m using Nat.strongRecOn with
    | ind m ih =>
    intro a b N1 N2 ha hb hN e1 e2 w1 w2 e3 e4
    have w3 : N2 3 = nI a := (hN 3 (by omega)).symm.trans e3
    have w4 : N2 4 = nI b - 1 := (hN 4 (by omega)).symm.trans e4
    refine Pm_suc rfl (fun k => by rw [x_has]) (fun k => by rw [x_has]) (fun k1 hk1 => ?_)
    rw [e1, w1, e2, w2, e3, w3, e4, w4]
    refine Pm_ite Iff.rfl (fun _ _ => ?_) (fun y _ => ?_)
    · refine Pm_suc rfl (fun k => by rw [x_has]) (fun k => by rw [x_has]) (fun k2 hk2 => ?_)
      exact Pm_some rfl
    have hb1 : 1 ≤ b := by
      by_cases e : b = 0
      · refine absurd ?_ y
        rw [e]
        rw [i_lt, show (nI 0 - 1 : Int32).toInt = -1 from rfl, n_int (by omega)]
        omega
      · omega
    obtain ⟨c, rfl⟩ : ∃ c, b = c + 1 := ⟨b - 1, by omega⟩
    have ec : nI (c + 1) - 1 = nI c := n_sub1 (by omega)
    rw [ec] at y e4 w4
    rw [ec]
    have hac : a ≤ c := by
      by_cases e : c < a
      · exact absurd ((n_lt (by omega) (by omega)).mpr e) y
      · omega
    rw [n_add (p := a) (q := c) (by omega), show nI (a + c) / 2 = nI ((a + c) / 2) from n_div (q := 2) (by omega) (by decide) (by decide), show nI s1 + 4 = nI (s1 + 4) from n_add (q := 4) (by omega), show nI s2 + 4 = nI (s2 + 4) from n_add (q := 4) (by omega), n_add (p := s1 + 4) (by omega), n_add (p := s2 + 4) (by omega), n_cl (p := s1 + 4 + (a + c) / 2) (by omega), n_cl (p := s2 + 4 + (a + c) / 2) (by omega)]
    have hmid : (a + c) / 2 < p := by omega
    generalize hmd : (a + c) / 2 = md at hmid
    refine Pm_ite Iff.rfl (fun e _ => absurd e (by decide)) (fun _ _ => ?_)
    refine Pm_chk (fun _ _ => ?_)
    obtain ⟨u, v, u1, u2, u3, u4, u5, u6, u7⟩ := hcell md hmid
    rw [u1, u3]
    refine Pm_ob (k_compare hS1 hS2 u2 z2 u4 z4 u5 z5 rfl rfl rfl rfl) (fun r1 r2 hr => ?_)
    rw [hr.1, hr.2.1, hr.2.2]
    refine Pm_ite Iff.rfl (fun _ _ => Pm_some rfl) (fun _ _ => ?_)
    generalize r2.1 = cr
    have hM : LE3 (upd (upd N1 5 (nI md)) 6 cr) (upd (upd N2 5 (nI md)) 6 cr) := LE_u (LE_u hN rfl) rfl
    have b6 : ∀ (m' a' b' : Nat) (M1 M2 : Nat → Int32), m' < m → a' ≤ p → b' ≤ p → LE3 M1 M2 → M1 1 = nI s1 → M1 2 = nI x1 → M2 1 = nI s2 → M2 2 = nI x2 → M1 3 = nI a' → M1 100 = nI b' - 1 → Pm m' (fun k => x_has k 6 M1 σ1) (fun k => x_has k 6 M2 σ2) (fun r1 r2 => r1.1 = r2.1) := by
      intro m' a' b' M1 M2 hm' ha' hb' hM e1 e2 w1 w2 e3 e100
      refine Pm_suc rfl (fun k => by rw [x_has]) (fun k => by rw [x_has]) (fun k2 hk2 => ?_)
      exact ih k2 (by omega) a' b' _ _ ha' hb' (LE_u hM (hM 100 (by omega))) e1 e2 w1 w2 e3 e100
    refine Pm_suc rfl (fun k => by rw [x_has]) (fun k => by rw [x_has]) (fun k2 hk2 => ?_)
    rw [show upd (upd N1 5 (nI md)) 6 cr 6 = cr from rfl, show upd (upd N2 5 (nI md)) 6 cr 6 = cr from rfl]
    refine Pm_ite Iff.rfl (fun z _ => ?_) (fun z _ => ?_)
    · refine Pm_suc rfl (fun k => by rw [x_has]) (fun k => by rw [x_has]) (fun k3 hk3 => ?_)
      refine Pm_suc rfl (fun k => by rw [x_has]) (fun k => by rw [x_has]) (fun k4 hk4 => ?_)
      refine Pm_ite Iff.rfl (fun _ _ => ?_) (fun q _ => absurd z q)
      refine Pm_suc rfl (fun k => by rw [x_has]) (fun k => by rw [x_has]) (fun k5 hk5 => ?_)
      exact b6 k5 a md _ _ (by omega) ha (by omega) (LE_u (LE_u (LE_u hM (by show N1 3 = N2 3; rw [e3, w3])) (by show N1 3 = N2 3; rw [e3, w3])) rfl) e1 e2 w1 w2 e3 rfl
    · refine Pm_suc rfl (fun k => by rw [x_has]) (fun k => by rw [x_has]) (fun k3 hk3 => ?_)
      refine Pm_ite Iff.rfl (fun q _ => absurd q z) (fun _ _ => ?_)
      exact b6 k3 (md + 1) (c + 1) _ _ (by omega) (by omega) hb (LE_u (LE_u (LE_u hM rfl) rfl) (by show N1 4 = N2 4; rw [e4, w4])) e1 e2 w1 w2 (by show nI md + 1 = _; rw [n_add1]) (by show N1 4 = _; rw [e4, ec])
  refine Pm_suc rfl (fun k => by rw [x_has]) (fun k => by rw [x_has]) (fun m1 _ => ?_)
  rw [d1, f1, n_add1, n_add1, n_cl (p := s1 + 1) (by omega), n_cl (p := s2 + 1) (by omega), o11, o12]
  refine Pm_chk (fun _ _ => ?_)
  exact lp m1 0 p _ _ (Nat.zero_le _) (Nat.le_refl _) (LE_u (LE_u hL rfl) rfl) d1 d2 f1 f2 rfl rfl
theorem k_isSubset {s1 s2 k p v1 v2 k' p' : Nat} (hS1 : HS g1 l1 B1 h1 σ1) (hS2 : HS g2 l2 B2 h2 σ2) (hO : OE g1 g2 (σ1.2.2 28) (σ2.2.2 28) s1 s2 k p) (hk : 5 ≤ k) (hO' : OE g1 g2 (σ1.2.2 28) (σ2.2.2 28) v1 v2 k' p') (hk' : 5 ≤ k') {L1 L2 : Nat → Int32} (d1 : L1 1 = nI s1) (d2 : L1 2 = nI v1) (f1 : L2 1 = nI s2) (f2 : L2 2 = nI v2) (hL : LE3 L1 L2) : Pm n (fun k => x_isSubset k 0 L1 σ1) (fun k => x_isSubset k 0 L2 σ2) (fun r1 r2 => r1.1 = r2.1) := by
  have hO0 := hO
  obtain ⟨o1, o2, o3, o4, o5, o6, o7, o8, o9, o10, o11, o12, o13, o14, o15, o16, o17⟩ := hO
  have hcell := o16 hk
  have lp : ∀ (m i : Nat) (N1 N2 : Nat → Int32), i ≤ p → LE3 N1 N2 → N1 1 = nI s1 → N1 2 = nI v1 → N2 1 = nI s2 → N2 2 = nI v2 → N1 4 = nI i → Pm m (fun k => x_isSubset k 1 N1 σ1) (fun k => x_isSubset k 1 N2 σ2) (fun r1 r2 => r1.1 = r2.1) := by
    intro m
    induction m using Nat.strongRecOn with
    | ind m ih =>
    intro i N1 N2 hi hN e1 e2 w1 w2 e4
    have w4 : N2 4 = nI i := (hN 4 (by omega)).symm.trans e4
    have b2 : ∀ m', Pm m' (fun k => x_isSubset k 2 N1 σ1) (fun k => x_isSubset k 2 N2 σ2) (fun r1 r2 => r1.1 = r2.1) := fun m' => by
      refine Pm_suc rfl (fun k => by rw [x_isSubset]) (fun k => by rw [x_isSubset]) (fun k2 _ => ?_)
      refine Pm_chk (fun _ _ => ?_)
      exact Pm_some (hN 3 (by omega))
    refine Pm_suc rfl (fun k => by rw [x_isSubset]) (fun k => by rw [x_isSubset]) (fun k1 hk1 => ?_)
    rw [e1, w1, e2, w2, e4, w4, n_add1 s1, n_add1 s2, n_cl (p := s1 + 1) (by omega), n_cl (p := s2 + 1) (by omega), o11, o12, show nI s1 + 4 = nI (s1 + 4) from n_add (q := 4) (by omega), show nI s2 + 4 = nI (s2 + 4) from n_add (q := 4) (by omega), n_add (p := s1 + 4) (by omega), n_add (p := s2 + 4) (by omega), n_cl (p := s1 + 4 + i) (by omega), n_cl (p := s2 + 4 + i) (by omega)]
    refine Pm_chk (fun _ _ => ?_)
    refine Pm_ite Iff.rfl (fun _ _ => b2 k1) (fun y _ => ?_)
    have hip : i < p := by
      by_cases e : p ≤ i
      · exact absurd ((n_le (by omega) (by omega)).mpr e) y
      · omega
    refine Pm_ite (by rw [hN 3 (by omega)]) (fun _ _ => b2 k1) (fun _ _ => ?_)
    refine Pm_chk (fun _ _ => ?_)
    have hv := hcell i hip
    obtain ⟨u, v, u1, u2, u3, u4, u5, u6, u7⟩ := hcell i hip
    rw [u1, u3] at hv
    rw [u1, u3]
    refine Pm_ob (Pm_un (s_has hS1 hO'.1 (by rw [hO'.2.2.2.2.2.2.1]; exact hk') u2 rfl rfl) (fun k => f_has k _ _ _) (s_has hS2 hO'.2.1 (by rw [hO'.2.2.2.2.2.2.2.1]; exact hk') u4 rfl rfl) (fun k => f_has k _ _ _) (k_has hS1 hS2 hO' hk' hv u6 u7 rfl rfl rfl rfl (fun i hi => by rw [upd_other (by omega), upd_other (by omega), upd_other (by omega), upd_other (by omega)]))) (fun r1 r2 hr => ?_)
    obtain ⟨q0, ⟨q1, _⟩, ⟨q2, _⟩⟩ := hr
    rw [q0, q1, q2]
    exact ih k1 (by omega) (i + 1) _ _ (by omega) (LE_u (LE_u hN rfl) rfl) e1 e2 w1 w2 (by show nI i + 1 = _; rw [n_add1])
  refine Pm_suc rfl (fun k => by rw [x_isSubset]) (fun k => by rw [x_isSubset]) (fun m1 _ => ?_)
  exact lp m1 0 _ _ (Nat.zero_le _) (LE_u (LE_u hL rfl) rfl) d1 d2 f1 f2 rfl
/-- values are being pushed on both sides -/
def KPu (g1 g2 : Nat → Prop) (f w : Nat) (σ1 σ2 τ1 τ2 : MS) : Prop := PuS g1 f w σ1 τ1 ∧ PuS g2 f w σ2 τ2 ∧ PlE g1 g2 τ1 τ2 f w
theorem KPu_0 {f : Nat} (t1 : σ1.1 59 = nI f) (t2 : σ2.1 59 = nI f) : KPu g1 g2 f 0 σ1 σ2 σ1 σ2 := ⟨PuS_0 t1, PuS_0 t2, fun i hi => absurd hi (Nat.not_lt_zero i)⟩
theorem k_push {f w : Nat} {τ1 τ2 : MS} {x y : Int32} (hK : KPu g1 g2 f w σ1 σ2 τ1 τ2) (hfw : f + w < 185000) (hv : VC g1 g2 (σ1.2.2 28) (σ2.2.2 28) x y) {L1 L2 : Nat → Int32} (d1 : L1 1 = x) (d2 : L2 1 = y) : Pm n (fun k => x_push k 0 L1 τ1) (fun k => x_push k 0 L2 τ2) (fun r1 r2 => KPu g1 g2 f (w + 1) σ1 σ2 r1.2 r2.2) := by
  obtain ⟨k1, k2, k3⟩ := hK
  have hv0 := hv
  obtain ⟨a, b, a1, a2, b1, b2, ev, ab, bb⟩ := hv
  refine Pm_mono (Pm_t2 (s_push k1.2.2.2.1 hfw L1) (fun k => f_push k _ _ _) (s_push k2.2.2.2.1 hfw L2) (fun k => f_push k _ _ _)) (fun r1 r2 hr => ?_)
  rw [hr.1, hr.2, d1, d2]
  refine ⟨?_, ?_, fun i hi => ?_⟩
  · rw [a1]; exact PuS_pu k1 a2
  · rw [b1]; exact PuS_pu k2 b2
  · show VC g1 g2 ((mPu τ1 (f + w) x).2.2 28) ((mPu τ2 (f + w) y).2.2 28) ((mPu τ1 (f + w) x).2.2 29 (f + i)) ((mPu τ2 (f + w) y).2.2 29 (f + i))
    rw [mPu_o (by decide), mPu_o (by decide), mPu_29, mPu_29]
    by_cases e : i = w
    · rw [e, upd_same, upd_same, k1.2.1 28 (by decide), k2.2.1 28 (by decide)]; exact hv0
    · rw [upd_other (by omega), upd_other (by omega)]; exact k3 i (by omega)
theorem k_setP {f w : Nat} {τ1 τ2 : MS} (hK : KPu g1 g2 f w σ1 σ2 τ1 τ2) (hS1 : HS g1 l1 B1 h1 σ1) (hS2 : HS g2 l2 B2 h2 σ2) (e1 : σ1.1 56 = 0) (e2 : σ2.1 56 = 0) (hw : w ≤ 60100) (hfw : f + w ≤ 185000) (hr1 : h1 + 4 + w ≤ B1 + 870000) (hr2 : h2 + 4 + w ≤ B2 + 870000) {L1 L2 : Nat → Int32} (d1 : L1 1 = nI f) (d2 : L2 1 = nI f) : Pm n (fun k => x_setOf k 0 L1 τ1) (fun k => x_setOf k 0 L2 τ2) (KQ h1 h2 (4 + w)) := k_setOf (PuS_HS hK.1 hS1) (PuS_HS hK.2.1 hS2) ((hK.1.1 56 (by decide)).trans e1) ((hK.2.1.1 56 (by decide)).trans e2) hK.1.2.2.2.1 hK.2.1.2.2.2.1 hw hfw hr1 hr2 hK.2.2 d1 d2
theorem k_tupP {f w : Nat} {τ1 τ2 : MS} (hK : KPu g1 g2 f w σ1 σ2 τ1 τ2) (hS1 : HS g1 l1 B1 h1 σ1) (hS2 : HS g2 l2 B2 h2 σ2) (e1 : σ1.1 56 = 0) (e2 : σ2.1 56 = 0) (hfw : f + w ≤ 185000) (hr1 : h1 + 4 + w ≤ B1 + 870000) (hr2 : h2 + 4 + w ≤ B2 + 870000) {L1 L2 : Nat → Int32} (d1 : L1 1 = nI f) (d2 : L2 1 = nI f) : Pm n (fun k => x_tupleOf k 0 L1 τ1) (fun k => x_tupleOf k 0 L2 τ2) (KQ h1 h2 (4 + w)) := k_tupleOf (PuS_HS hK.1 hS1) (PuS_HS hK.2.1 hS2) ((hK.1.1 56 (by decide)).trans e1) ((hK.2.1.1 56 (by decide)).trans e2) hK.1.2.2.2.1 hK.2.1.2.2.2.1 hfw hr1 hr2 hK.2.2 d1 d2
theorem KQ_mo {K K' : Nat} {r1 r2 : Int32 × MS} (h : KQ h1 h2 K r1 r2) (hK : K ≤ K') : KQ h1 h2 K' r1 r2 := by
  obtain ⟨a, b, p1, p2, c1, c2, c3, c4⟩ := h
  exact ⟨a, b, p1, p2, c1, c2, by omega, by omega⟩
theorem k_sift {f s1 s2 k p v1 v2 k' p' : Nat} (hS1 : HS g1 l1 B1 h1 σ1) (hS2 : HS g2 l2 B2 h2 σ2) (e1 : σ1.1 56 = 0) (e2 : σ2.1 56 = 0) (t1 : σ1.1 59 = nI f) (t2 : σ2.1 59 = nI f) (hf : f ≤ 177000) (hr1 : h1 + 4000 ≤ B1 + 870000) (hr2 : h2 + 4000 ≤ B2 + 870000) (hO : OE g1 g2 (σ1.2.2 28) (σ2.2.2 28) s1 s2 k p) (hk : 5 ≤ k) (hO' : OE g1 g2 (σ1.2.2 28) (σ2.2.2 28) v1 v2 k' p') (hk' : 5 ≤ k') {L1 L2 : Nat → Int32} (d1 : L1 1 = nI s1) (d2 : L1 2 = nI v1) (f1 : L2 1 = nI s2) (f2 : L2 2 = nI v2) (hL : LE3 L1 L2) : Pm n (fun k => x_sift k 0 L1 σ1) (fun k => x_sift k 0 L2 σ2) (KQ h1 h2 4000) := by
  have hO0 := hO
  obtain ⟨o1, o2, o3, o4, o5, o6, o7, o8, o9, o10, o11, o12, o13, o14, o15, o16, o17⟩ := hO
  have hcell := o16 hk
  have lp : ∀ (m i w : Nat) (N1 N2 : Nat → Int32) (τ1 τ2 : MS), i ≤ p → w ≤ i → LE3 N1 N2 → N1 1 = nI s1 → N1 2 = nI v1 → N2 1 = nI s2 → N2 2 = nI v2 → N1 4 = nI f → N1 5 = nI i → KPu g1 g2 f w σ1 σ2 τ1 τ2 → Pm m (fun k => x_sift k 1 N1 τ1) (fun k => x_sift k 1 N2 τ2) (KQ h1 h2 4000) := by
    intro m
    induction m using Nat.strongRecOn with
    | ind m ih =>
    intro i w N1 N2 τ1 τ2 hi hwi hN x1 x2 w1 w2 x4 x5 hK
    have w4 : N2 4 = nI f := (hN 4 (by omega)).symm.trans x4
    have w5 : N2 5 = nI i := (hN 5 (by omega)).symm.trans x5
    have a28 : τ1.2.2 28 = σ1.2.2 28 := hK.1.2.1 28 (by decide)
    have b28 : τ2.2.2 28 = σ2.2.2 28 := hK.2.1.2.1 28 (by decide)
    have hT1 := PuS_HS hK.1 hS1
    have hT2 := PuS_HS hK.2.1 hS2
    refine Pm_suc rfl (fun k => by rw [x_sift]) (fun k => by rw [x_sift]) (fun k1 hk1 => ?_)
    rw [x1, w1, x2, w2, x5, w5, n_add1, n_add1, n_cl (p := s1 + 1) (by omega), n_cl (p := s2 + 1) (by omega), a28, b28, o11, o12, show nI s1 + 4 = nI (s1 + 4) from n_add (q := 4) (by omega), show nI s2 + 4 = nI (s2 + 4) from n_add (q := 4) (by omega), n_add (p := s1 + 4) (by omega), n_add (p := s2 + 4) (by omega), n_cl (p := s1 + 4 + i) (by omega), n_cl (p := s2 + 4 + i) (by omega)]
    refine Pm_chk (fun _ _ => ?_)
    refine Pm_ite Iff.rfl (fun _ _ => ?_) (fun y _ => ?_)
    · refine Pm_suc rfl (fun k => by rw [x_sift]) (fun k => by rw [x_sift]) (fun k2 hk2 => ?_)
      refine Pm_ob (k_setP hK hS1 hS2 e1 e2 (by omega) (by omega) (by omega) (by omega) (by exact x4) (by exact w4)) (fun r1 r2 hr => Pm_some (KQ_mo hr (by omega)))
    have hip : i < p := by
      by_cases e : p ≤ i
      · exact absurd ((n_le (by omega) (by omega)).mpr e) y
      · omega
    have b2 : ∀ (m' w' : Nat) (υ1 υ2 : MS), m' < m → w' ≤ i + 1 → KPu g1 g2 f w' σ1 σ2 υ1 υ2 → Pm m' (fun k => x_sift k 2 N1 υ1) (fun k => x_sift k 2 N2 υ2) (KQ h1 h2 4000) := by
      intro m' w' υ1 υ2 hm' hw' hK'
      refine Pm_suc rfl (fun k => by rw [x_sift]) (fun k => by rw [x_sift]) (fun k2 hk2 => ?_)
      exact ih k2 (by omega) (i + 1) w' _ _ _ _ (by omega) hw' (LE_u hN (by rw [x5, w5])) x1 x2 w1 w2 x4 (by show N1 5 + 1 = _; rw [x5, n_add1]) hK'
    refine Pm_chk (fun _ _ => ?_)
    have hv := hcell i hip
    have hv0 := hcell i hip
    obtain ⟨u, v, u1, u2, u3, u4, u5, u6, u7⟩ := hcell i hip
    rw [u1, u3] at hv
    rw [u1, u3]
    have hO'' : OE g1 g2 (τ1.2.2 28) (τ2.2.2 28) v1 v2 k' p' := by rw [a28, b28]; exact hO'
    have hv'' : VC g1 g2 (τ1.2.2 28) (τ2.2.2 28) (nI u) (nI v) := by rw [a28, b28]; exact hv
    refine Pm_ob (Pm_un (s_has hT1 hO''.1 (by rw [hO''.2.2.2.2.2.2.1]; exact hk') u2 rfl rfl) (fun k => f_has k _ _ _) (s_has hT2 hO''.2.1 (by rw [hO''.2.2.2.2.2.2.2.1]; exact hk') u4 rfl rfl) (fun k => f_has k _ _ _) (k_has hT1 hT2 hO'' hk' hv'' u6 u7 rfl rfl rfl rfl (fun i hi => by rw [upd_other (by omega), upd_other (by omega), upd_other (by omega), upd_other (by omega)]))) (fun r1 r2 hr => ?_)
    obtain ⟨q0, ⟨q1, _⟩, ⟨q2, _⟩⟩ := hr
    rw [q0, q1, q2, a28, b28, u1, u3]
    refine Pm_ite (by rw [hN 3 (by omega)]) (fun _ _ => ?_) (fun _ _ => b2 k1 w _ _ (by omega) (by omega) hK)
    refine Pm_chk (fun _ _ => ?_)
    exact Pm_ob (k_push hK (by omega) hv rfl rfl) (fun r1 r2 hr => b2 k1 (w + 1) _ _ (by omega) (by omega) hr)
  refine Pm_suc rfl (fun k => by rw [x_sift]) (fun k => by rw [x_sift]) (fun m1 _ => ?_)
  rw [t1, t2]
  exact lp m1 0 0 _ _ _ _ (Nat.zero_le _) (Nat.le_refl _) (LE_u (LE_u hL rfl) rfl) d1 d2 f1 f2 rfl rfl (KPu_0 t1 t2)
end KHA
