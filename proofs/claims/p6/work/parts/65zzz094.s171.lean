/-! Two runs side by side (reference): in, repeat. -/
section KIN
variable {g1 g2 : Nat → Prop} {l1 l2 : List Nat} {B1 h1 B2 h2 n : Nat} {σ1 σ2 : MS}
theorem k_truth {K : Nat} (hS1 : HS g1 l1 B1 h1 σ1) (hS2 : HS g2 l2 B2 h2 σ2) (e : σ1.1 56 = 0 ↔ σ2.1 56 = 0) {L1 L2 : Nat → Int32} (hL : L1 1 = L2 1) : Pm n (fun k => x_truth k 0 L1 σ1) (fun k => x_truth k 0 L2 σ2) (fun r1 r2 => KQ h1 h2 K r1 r2 ∧ r1.2 = σ1 ∧ r2.2 = σ2 ∧ r1.1 = r2.1) := by
  have t1 := KQ_same (K := K) hS1 hS2 e (a := 1) (b := 1) (by decide) (by decide) (EVb_0 (by decide))
  have t2 := KQ_same (K := K) hS1 hS2 e (a := 2) (b := 2) (by decide) (by decide) (EVb_0 (by decide))
  refine Pm_suc rfl (fun k => by rw [x_truth]) (fun k => by rw [x_truth]) (fun m1 _ => ?_)
  refine Pm_ite (by rw [hL]) (fun _ _ => ?_) (fun _ _ => ?_)
  · refine Pm_suc rfl (fun k => by rw [x_truth]) (fun k => by rw [x_truth]) (fun m2 _ => ?_)
    refine Pm_suc rfl (fun k => by rw [x_truth]) (fun k => by rw [x_truth]) (fun m3 _ => ?_)
    exact Pm_some ⟨t1, rfl, rfl, rfl⟩
  · refine Pm_suc rfl (fun k => by rw [x_truth]) (fun k => by rw [x_truth]) (fun m2 _ => ?_)
    exact Pm_some ⟨t2, rfl, rfl, rfl⟩
theorem k_isIn {K x1 x2 b1 b2 : Nat} (hS1 : HS g1 l1 B1 h1 σ1) (hS2 : HS g2 l2 B2 h2 σ2) (e : σ1.1 56 = 0 ↔ σ2.1 56 = 0) (hx1 : x1 < 3 ∨ g1 x1) (hx2 : x2 < 3 ∨ g2 x2) (vx : EVb (σ1.2.2 28) (σ2.2.2 28) x1 x2) (hb1 : b1 < 3 ∨ g1 b1) (hb2 : b2 < 3 ∨ g2 b2) (vb : EVb (σ1.2.2 28) (σ2.2.2 28) b1 b2) {L1 L2 : Nat → Int32} (d1 : L1 1 = nI x1) (d2 : L1 2 = nI b1) (f1 : L2 1 = nI x2) (f2 : L2 2 = nI b2) (hL : LE3 L1 L2) : Pm n (fun k => x_isIn k 0 L1 σ1) (fun k => x_isIn k 0 L2 σ2) (fun r1 r2 => KQ h1 h2 K r1 r2 ∧ (r1.2.1 56 = 0 → r1.1 = r2.1)) := by
  have kb := kdN_6 hS1 hb1
  have kx := kdN_6 hS1 hx1
  have bx1 := HS_vb hS1 hx1
  have bx2 := HS_vb hS2 hx2
  have hvx : VC g1 g2 (σ1.2.2 28) (σ2.2.2 28) (nI x1) (nI x2) := ⟨x1, x2, rfl, hx1, rfl, hx2, vx, bx1, bx2⟩
  have i0 : nI x1 = 0 ↔ nI x2 = 0 := VC_0 hvx
  have tr : ∀ (m : Nat) (N1 N2 : Nat → Int32), N1 1 = N2 1 → Pm m (fun k => x_truth k 0 N1 σ1) (fun k => x_truth k 0 N2 σ2) (fun r1 r2 => KQ h1 h2 K r1 r2 ∧ (r1.2.1 56 = 0 → r1.1 = r2.1)) := fun m N1 N2 h => Pm_mono (k_truth hS1 hS2 e h) (fun r1 r2 hr => ⟨hr.1, fun _ => hr.2.2.2⟩)
  have c2 : ∀ (m : Nat) (N1 N2 : Nat → Int32), N1 100 = N2 100 → Pm m (fun k => x_isIn k 2 N1 σ1) (fun k => x_isIn k 2 N2 σ2) (fun r1 r2 => KQ h1 h2 K r1 r2 ∧ (r1.2.1 56 = 0 → r1.1 = r2.1)) := fun m N1 N2 h => by
    refine Pm_suc rfl (fun k => by rw [x_isIn]) (fun k => by rw [x_isIn]) (fun m1 _ => ?_)
    exact Pm_ob (tr m1 _ _ (by exact h)) (fun r1 r2 hr => Pm_some hr)
  have b1' : ∀ (m : Nat) (N1 N2 : Nat → Int32), Pm m (fun k => x_isIn k 1 N1 σ1) (fun k => x_isIn k 1 N2 σ2) (fun r1 r2 => KQ h1 h2 K r1 r2 ∧ (r1.2.1 56 = 0 → r1.1 = r2.1)) := fun m N1 N2 => by
    refine Pm_suc rfl (fun k => by rw [x_isIn]) (fun k => by rw [x_isIn]) (fun m1 _ => ?_)
    exact c2 m1 _ _ rfl
  have b10 : ∀ (m : Nat) (N1 N2 : Nat → Int32), Pm m (fun k => x_isIn k 10 N1 σ1) (fun k => x_isIn k 10 N2 σ2) (fun r1 r2 => KQ h1 h2 K r1 r2 ∧ (r1.2.1 56 = 0 → r1.1 = r2.1)) := fun m N1 N2 => by
    refine Pm_suc rfl (fun k => by rw [x_isIn]) (fun k => by rw [x_isIn]) (fun m1 _ => ?_)
    refine Pm_ob (Pm_t2 (s_wrongKind _) (fun k => f_wrongKind k _ _ _) (s_wrongKind _) (fun k => f_wrongKind k _ _ _)) (fun r1 r2 hr => ?_)
    rw [hr.1, hr.2]
    exact Pm_some ⟨k_er (by decide) hS1 hS2, fun z => absurd z (mEr_e (by decide))⟩
  -- tuples
  have b4 : kdN (σ1.2.2 28) b1 = 5 → ∀ (m : Nat) (N1 N2 : Nat → Int32), LE3 N1 N2 → N1 1 = nI x1 → N1 2 = nI b1 → N2 1 = nI x2 → N2 2 = nI b2 → N1 5 = nI 0 → Pm m (fun k => x_isIn k 4 N1 σ1) (fun k => x_isIn k 4 N2 σ2) (fun r1 r2 => KQ h1 h2 K r1 r2 ∧ (r1.2.1 56 = 0 → r1.1 = r2.1)) := by
    intro hk5
    obtain ⟨k, p, hB⟩ := OE_of hS1 hS2 (kdN_ge hS1 hb1 (by omega)) hb2 vb
    obtain ⟨_, _, _, _, _, o6, o7, _, _, _, o11, o12, o13, o14, _, o16, _⟩ := hB
    have cb := o16 (by omega)
    have lp : ∀ (m i : Nat) (N1 N2 : Nat → Int32), i ≤ p → LE3 N1 N2 → N1 1 = nI x1 → N1 2 = nI b1 → N2 1 = nI x2 → N2 2 = nI b2 → N1 5 = nI i → Pm m (fun k => x_isIn k 4 N1 σ1) (fun k => x_isIn k 4 N2 σ2) (fun r1 r2 => KQ h1 h2 K r1 r2 ∧ (r1.2.1 56 = 0 → r1.1 = r2.1)) := by
      intro m
      induction m using Nat.strongRecOn with
      | ind m ih =>
      intro i N1 N2 hi hN z1 z2 w1 w2 z5
      have w5 : N2 5 = nI i := (hN 5 (by omega)).symm.trans z5
      have b8 : ∀ m', Pm m' (fun k => x_isIn k 8 N1 σ1) (fun k => x_isIn k 8 N2 σ2) (fun r1 r2 => KQ h1 h2 K r1 r2 ∧ (r1.2.1 56 = 0 → r1.1 = r2.1)) := fun m' => by
        refine Pm_suc rfl (fun k => by rw [x_isIn]) (fun k => by rw [x_isIn]) (fun m2 _ => ?_)
        exact Pm_ob (tr m2 _ _ (by exact hN 4 (by omega))) (fun r1 r2 hr => Pm_some hr)
      refine Pm_suc rfl (fun k => by rw [x_isIn]) (fun k => by rw [x_isIn]) (fun k1 hk1 => ?_)
      rw [z1, w1, z2, w2, z5, w5, n_add1 b1, n_add1 b2, n_cl (p := b1 + 1) (by omega), n_cl (p := b2 + 1) (by omega), o11, o12, show nI b1 + 4 = nI (b1 + 4) from n_add (q := 4) (by omega), show nI b2 + 4 = nI (b2 + 4) from n_add (q := 4) (by omega), n_add (p := b1 + 4) (by omega), n_add (p := b2 + 4) (by omega), n_cl (p := b1 + 4 + i) (by omega), n_cl (p := b2 + 4 + i) (by omega)]
      refine Pm_chk (fun _ _ => ?_)
      refine Pm_ite Iff.rfl (fun _ _ => b8 k1) (fun y _ => ?_)
      have hip : i < p := by
        by_cases e : p ≤ i
        · exact absurd ((n_le (by omega) (by omega)).mpr e) y
        · omega
      refine Pm_ite i0 (fun _ _ => b8 k1) (fun _ _ => ?_)
      have b7 : ∀ (m' : Nat) (M1 M2 : Nat → Int32), m' < m → LE3 M1 M2 → M1 1 = nI x1 → M1 2 = nI b1 → M2 1 = nI x2 → M2 2 = nI b2 → M1 5 = nI i → Pm m' (fun k => x_isIn k 7 M1 σ1) (fun k => x_isIn k 7 M2 σ2) (fun r1 r2 => KQ h1 h2 K r1 r2 ∧ (r1.2.1 56 = 0 → r1.1 = r2.1)) := by
        intro m' M1 M2 hm' hM q1 q2 q3 q4 q5
        refine Pm_suc rfl (fun k => by rw [x_isIn]) (fun k => by rw [x_isIn]) (fun k2 hk2 => ?_)
        exact ih k2 (by omega) (i + 1) _ _ (by omega) (LE_u (LE_u hM (hM 100 (by omega))) (by rw [hM 5 (by omega)])) q1 q2 q3 q4 (by show M1 5 + 1 = _; rw [q5, n_add1])
      have b5 : ∀ m', m' < m → Pm m' (fun k => x_isIn k 5 N1 σ1) (fun k => x_isIn k 5 N2 σ2) (fun r1 r2 => KQ h1 h2 K r1 r2 ∧ (r1.2.1 56 = 0 → r1.1 = r2.1)) := fun m' hm' => by
        refine Pm_suc rfl (fun k => by rw [x_isIn]) (fun k => by rw [x_isIn]) (fun k2 hk2 => ?_)
        exact b7 k2 _ _ (by omega) (LE_u hN rfl) z1 z2 w1 w2 z5
      have b6 : ∀ m', m' < m → Pm m' (fun k => x_isIn k 6 N1 σ1) (fun k => x_isIn k 6 N2 σ2) (fun r1 r2 => KQ h1 h2 K r1 r2 ∧ (r1.2.1 56 = 0 → r1.1 = r2.1)) := fun m' hm' => by
        refine Pm_suc rfl (fun k => by rw [x_isIn]) (fun k => by rw [x_isIn]) (fun k2 hk2 => ?_)
        exact b7 k2 _ _ (by omega) (LE_u hN rfl) z1 z2 w1 w2 z5
      refine Pm_ite (by rw [hN 4 (by omega)]) (fun _ _ => ?_) (fun _ _ => b5 k1 (by omega))
      refine Pm_chk (fun _ _ => ?_)
      obtain ⟨u, v, u1, u2, u3, u4, u5, u6, u7⟩ := cb i hip
      rw [u1, u3]
      refine Pm_ob (k_compare hS1 hS2 u2 hx1 u4 hx2 u5 vx rfl rfl rfl rfl) (fun r1 r2 hr => ?_)
      rw [hr.1, hr.2.1, hr.2.2]
      exact Pm_ite Iff.rfl (fun _ _ => b5 k1 (by omega)) (fun _ _ => b6 k1 (by omega))
    exact fun m N1 N2 hN z1 z2 w1 w2 z5 => lp m 0 N1 N2 (Nat.zero_le _) hN z1 z2 w1 w2 z5
  -- strings
  have b12 : kdN (σ1.2.2 28) b1 = 4 → kdN (σ1.2.2 28) x1 = 4 → ∀ (m : Nat) (N1 N2 : Nat → Int32), LE3 N1 N2 → N1 1 = nI x1 → N1 2 = nI b1 → N2 1 = nI x2 → N2 2 = nI b2 → N1 5 = nI 0 → Pm m (fun k => x_isIn k 12 N1 σ1) (fun k => x_isIn k 12 N2 σ2) (fun r1 r2 => KQ h1 h2 K r1 r2 ∧ (r1.2.1 56 = 0 → r1.1 = r2.1)) := by
    intro hk4 hx4
    obtain ⟨k, p, hB⟩ := OE_of hS1 hS2 (kdN_ge hS1 hb1 (by omega)) hb2 vb
    obtain ⟨_, _, _, _, _, o6, o7, _, _, _, o11, o12, o13, o14, _, _, o17⟩ := hB
    obtain ⟨k', q, hX⟩ := OE_of hS1 hS2 (kdN_ge hS1 hx1 (by omega)) hx2 vx
    obtain ⟨_, _, _, _, _, p6, p7, _, _, _, p11, p12, p13, p14, _, _, p17⟩ := hX
    have cb := o17 (by omega)
    have cx := p17 (by omega)
    have lp : ∀ (m i : Nat) (N1 N2 : Nat → Int32), i ≤ p + 1 → LE3 N1 N2 → N1 1 = nI x1 → N1 2 = nI b1 → N2 1 = nI x2 → N2 2 = nI b2 → N1 5 = nI i → Pm m (fun k => x_isIn k 12 N1 σ1) (fun k => x_isIn k 12 N2 σ2) (fun r1 r2 => KQ h1 h2 K r1 r2 ∧ (r1.2.1 56 = 0 → r1.1 = r2.1)) := by
      intro m
      induction m using Nat.strongRecOn with
      | ind m ih =>
      intro i N1 N2 hi hN z1 z2 w1 w2 z5
      have w5 : N2 5 = nI i := (hN 5 (by omega)).symm.trans z5
      have b17 : ∀ m', Pm m' (fun k => x_isIn k 17 N1 σ1) (fun k => x_isIn k 17 N2 σ2) (fun r1 r2 => KQ h1 h2 K r1 r2 ∧ (r1.2.1 56 = 0 → r1.1 = r2.1)) := fun m' => by
        refine Pm_suc rfl (fun k => by rw [x_isIn]) (fun k => by rw [x_isIn]) (fun m2 _ => ?_)
        exact Pm_ob (tr m2 _ _ (by exact hN 4 (by omega))) (fun r1 r2 hr => Pm_some hr)
      refine Pm_suc rfl (fun k => by rw [x_isIn]) (fun k => by rw [x_isIn]) (fun k1 hk1 => ?_)
      rw [z1, w1, z2, w2, z5, w5, n_add1 b1, n_add1 b2, n_add1 x1, n_add1 x2, n_cl (p := b1 + 1) (by omega), n_cl (p := b2 + 1) (by omega), n_cl (p := x1 + 1) (by omega), n_cl (p := x2 + 1) (by omega), o11, o12, p11, p12, n_add (p := i) (q := q) (by omega)]
      refine Pm_chk (fun _ _ => ?_)
      refine Pm_chk (fun _ _ => ?_)
      refine Pm_ite Iff.rfl (fun _ _ => b17 k1) (fun y _ => ?_)
      have hiq : i + q ≤ p := by
        by_cases e : p < i + q
        · exact absurd ((n_lt (by omega) (by omega)).mpr e) y
        · omega
      refine Pm_ite (by rw [hN 4 (by omega)]) (fun _ _ => ?_) (fun _ _ => b17 k1)
      have b13 : ∀ (m' j : Nat) (M1 M2 : Nat → Int32), m' < m → j ≤ q → LE3 M1 M2 → M1 1 = nI x1 → M1 2 = nI b1 → M2 1 = nI x2 → M2 2 = nI b2 → M1 5 = nI i → M1 7 = nI j → Pm m' (fun k => x_isIn k 13 M1 σ1) (fun k => x_isIn k 13 M2 σ2) (fun r1 r2 => KQ h1 h2 K r1 r2 ∧ (r1.2.1 56 = 0 → r1.1 = r2.1)) := by
        intro m'
        induction m' using Nat.strongRecOn with
        | ind m' ihj =>
        intro j M1 M2 hm' hj hM q1 q2 q3 q4 q5 q7
        have v5 : M2 5 = nI i := (hM 5 (by omega)).symm.trans q5
        have v7 : M2 7 = nI j := (hM 7 (by omega)).symm.trans q7
        have b16 : ∀ m2, m2 < m' → Pm m2 (fun k => x_isIn k 16 M1 σ1) (fun k => x_isIn k 16 M2 σ2) (fun r1 r2 => KQ h1 h2 K r1 r2 ∧ (r1.2.1 56 = 0 → r1.1 = r2.1)) := fun m2 hm2 => by
          refine Pm_suc rfl (fun k => by rw [x_isIn]) (fun k => by rw [x_isIn]) (fun k3 hk3 => ?_)
          exact ih k3 (by omega) (i + 1) _ _ (by omega) (LE_u (LE_u hM (hM 6 (by omega))) (by rw [q5, v5])) q1 q2 q3 q4 (by show M1 5 + 1 = _; rw [q5, n_add1])
        refine Pm_suc rfl (fun k => by rw [x_isIn]) (fun k => by rw [x_isIn]) (fun k2 hk2 => ?_)
        rw [q1, q3, q2, q4, q5, v5, q7, v7, n_add1 x1, n_add1 x2, n_cl (p := x1 + 1) (by omega), n_cl (p := x2 + 1) (by omega), p11, p12, show nI b1 + 4 = nI (b1 + 4) from n_add (q := 4) (by omega), show nI b2 + 4 = nI (b2 + 4) from n_add (q := 4) (by omega), show nI x1 + 4 = nI (x1 + 4) from n_add (q := 4) (by omega), show nI x2 + 4 = nI (x2 + 4) from n_add (q := 4) (by omega), n_add (p := b1 + 4) (by omega), n_add (p := b2 + 4) (by omega), n_add (p := x1 + 4) (by omega), n_add (p := x2 + 4) (by omega), n_add (p := b1 + 4 + i) (by omega), n_add (p := b2 + 4 + i) (by omega), n_cl (p := b1 + 4 + i + j) (by omega), n_cl (p := b2 + 4 + i + j) (by omega), n_cl (p := x1 + 4 + j) (by omega), n_cl (p := x2 + 4 + j) (by omega)]
        refine Pm_chk (fun _ _ => ?_)
        refine Pm_ite Iff.rfl (fun _ _ => b16 k2 (by omega)) (fun y _ => ?_)
        have hjq : j < q := by
          by_cases e : q ≤ j
          · exact absurd ((n_le (by omega) (by omega)).mpr e) y
          · omega
        refine Pm_ite (by rw [hM 6 (by omega)]) (fun _ _ => b16 k2 (by omega)) (fun _ _ => ?_)
        refine Pm_chk (fun _ _ => ?_)
        refine Pm_chk (fun _ _ => ?_)
        have hc1 := cb (i + j) (by omega)
        have hc2 := cx j hjq
        rw [show b1 + 4 + i + j = b1 + 4 + (i + j) by omega, show b2 + 4 + i + j = b2 + 4 + (i + j) by omega, hc1, hc2]
        have b15 : ∀ (m2 : Nat) (O1 O2 : Nat → Int32), m2 < m' → LE3 O1 O2 → O1 1 = nI x1 → O1 2 = nI b1 → O2 1 = nI x2 → O2 2 = nI b2 → O1 5 = nI i → O1 7 = nI j → Pm m2 (fun k => x_isIn k 15 O1 σ1) (fun k => x_isIn k 15 O2 σ2) (fun r1 r2 => KQ h1 h2 K r1 r2 ∧ (r1.2.1 56 = 0 → r1.1 = r2.1)) := by
          intro m2 O1 O2 hm2 hO u1 u2 u3 u4 u5 u7
          refine Pm_suc rfl (fun k => by rw [x_isIn]) (fun k => by rw [x_isIn]) (fun k3 hk3 => ?_)
          exact ihj k3 (by omega) (j + 1) _ _ (by omega) (by omega) (LE_u (LE_u hO (hO 100 (by omega))) (by rw [hO 7 (by omega)])) u1 u2 u3 u4 u5 (by show O1 7 + 1 = _; rw [u7, n_add1])
        refine Pm_ite Iff.rfl (fun _ _ => b15 k2 _ _ (by omega) (LE_u hM rfl) q1 q2 q3 q4 q5 q7) (fun _ _ => ?_)
        refine Pm_suc rfl (fun k => by rw [x_isIn]) (fun k => by rw [x_isIn]) (fun k3 hk3 => ?_)
        exact b15 k3 _ _ (by omega) (LE_u hM rfl) q1 q2 q3 q4 q5 q7
      exact b13 k1 0 _ _ (by omega) (Nat.zero_le _) (LE_u (LE_u hN rfl) rfl) z1 z2 w1 w2 z5 rfl
    exact fun m N1 N2 hN z1 z2 w1 w2 z5 => lp m 0 N1 N2 (Nat.zero_le _) hN z1 z2 w1 w2 z5
  refine Pm_suc rfl (fun k => by rw [x_isIn]) (fun k => by rw [x_isIn]) (fun m1 _ => ?_)
  refine Pm_ob (Pm_t2 (s_kind hS1 hb1 (by exact d2)) (fun k => f_kind k _ _ _) (s_kind hS2 hb2 (by exact f2)) (fun k => f_kind k _ _ _)) (fun r1 r2 hr => ?_)
  rw [hr.1, hr.2, (EVb_sz vb).2.2, d1, f1]
  have hL3 : LE3 (upd L1 3 (nI (kdN (σ1.2.2 28) b1))) (upd L2 3 (nI (kdN (σ1.2.2 28) b1))) := LE_u hL rfl
  refine Pm_ite Iff.rfl (fun z _ => ?_) (fun z6 _ => ?_)
  · have z := (n_eq (q := 6) (by omega) (by decide)).mp z
    refine Pm_ite i0 (fun _ _ => b1' m1 _ _) (fun _ _ => ?_)
    obtain ⟨k, p, hB⟩ := OE_of hS1 hS2 (kdN_ge hS1 hb1 (by omega)) hb2 vb
    have ek := hB.2.2.2.2.2.2.1
    have ek2 := hB.2.2.2.2.2.2.2.1
    refine Pm_ob (Pm_un (s_has hS1 hB.1 (by omega) hx1 (by exact d2) rfl) (fun k => f_has k _ _ _) (s_has hS2 hB.2.1 (by omega) hx2 (by exact f2) rfl) (fun k => f_has k _ _ _) (k_has hS1 hS2 hB (by omega) hvx bx1 bx2 (by exact d2) rfl (by exact f2) rfl (fun i hi => by rw [upd_other (by omega), upd_other (by omega), upd_other (by omega), upd_other (by omega)]))) (fun s1 s2 hs => ?_)
    obtain ⟨q0, ⟨q1, _⟩, ⟨q2, _⟩⟩ := hs
    rw [q0, q1, q2]
    exact Pm_ite Iff.rfl (fun _ _ => b1' m1 _ _) (fun _ _ => c2 m1 _ _ rfl)
  refine Pm_suc rfl (fun k => by rw [x_isIn]) (fun k => by rw [x_isIn]) (fun m2 _ => ?_)
  rw [show upd L1 3 (nI (kdN (σ1.2.2 28) b1)) 3 = nI (kdN (σ1.2.2 28) b1) from rfl, show upd L2 3 (nI (kdN (σ1.2.2 28) b1)) 3 = nI (kdN (σ1.2.2 28) b1) from rfl]
  refine Pm_ite Iff.rfl (fun z _ => ?_) (fun z5 _ => ?_)
  · have z := (n_eq (q := 5) (by omega) (by decide)).mp z
    exact b4 z m2 _ _ (LE_u (LE_u hL3 rfl) rfl) d1 d2 f1 f2 rfl
  refine Pm_suc rfl (fun k => by rw [x_isIn]) (fun k => by rw [x_isIn]) (fun m3 _ => ?_)
  refine Pm_ite Iff.rfl (fun z _ => ?_) (fun _ _ => b10 m3 _ _)
  have z := (n_eq (q := 4) (by omega) (by decide)).mp z
  refine Pm_ob (Pm_t2 (s_kind hS1 hx1 (by exact d1)) (fun k => f_kind k _ _ _) (s_kind hS2 hx2 (by exact f1)) (fun k => f_kind k _ _ _)) (fun s1 s2 hs => ?_)
  rw [hs.1, hs.2, (EVb_sz vx).2.2]
  refine Pm_ite Iff.rfl (fun y _ => ?_) (fun _ _ => b10 m3 _ _)
  have y := (n_eq (q := 4) (by omega) (by decide)).mp y
  refine Pm_suc rfl (fun k => by rw [x_isIn]) (fun k => by rw [x_isIn]) (fun m4 _ => ?_)
  exact b12 z y m4 _ _ (LE_u (LE_u hL3 rfl) rfl) d1 d2 f1 f2 rfl
end KIN
