/-! Two runs side by side (reference): sides of maps, pairs, characters, what is left without one. -/
section KSD
variable {g1 g2 : Nat → Prop} {l1 l2 : List Nat} {B1 h1 B2 h2 n : Nat} {σ1 σ2 : MS}
theorem k_pair {f v1 v2 x1 x2 : Nat} (hS1 : HS g1 l1 B1 h1 σ1) (hS2 : HS g2 l2 B2 h2 σ2) (e1 : σ1.1 56 = 0) (e2 : σ2.1 56 = 0) (t1 : σ1.1 59 = nI f) (t2 : σ2.1 59 = nI f) (hf : f + 2 ≤ 185000) (hr1 : h1 + 6 ≤ B1 + 870000) (hr2 : h2 + 6 ≤ B2 + 870000) (hv : VC g1 g2 (σ1.2.2 28) (σ2.2.2 28) (nI v1) (nI v2)) (hx : VC g1 g2 (σ1.2.2 28) (σ2.2.2 28) (nI x1) (nI x2)) {L1 L2 : Nat → Int32} (d1 : L1 1 = nI v1) (d2 : L1 2 = nI x1) (f1 : L2 1 = nI v2) (f2 : L2 2 = nI x2) : Pm n (fun k => x_pair k 0 L1 σ1) (fun k => x_pair k 0 L2 σ2) (KQ h1 h2 6) := by
  refine Pm_suc rfl (fun k => by rw [x_pair]) (fun k => by rw [x_pair]) (fun m1 _ => ?_)
  refine Pm_ob (k_push (KPu_0 t1 t2) (by omega) hv (by exact d1) (by exact f1)) (fun r1 r2 hr => ?_)
  refine Pm_ob (k_push hr (by omega) hx (by exact d2) (by exact f2)) (fun s1 s2 hs => ?_)
  rw [t1, t2]
  exact Pm_ob (k_tupP hs hS1 hS2 e1 e2 (by omega) (by omega) (by omega) rfl rfl) (fun u1 u2 hu => Pm_some hu)
theorem k_side {f v1 v2 c : Nat} (hS1 : HS g1 l1 B1 h1 σ1) (hS2 : HS g2 l2 B2 h2 σ2) (e1 : σ1.1 56 = 0) (e2 : σ2.1 56 = 0) (t1 : σ1.1 59 = nI f) (t2 : σ2.1 59 = nI f) (hf : f ≤ 177000) (hr1 : h1 + 4004 ≤ B1 + 870000) (hr2 : h2 + 4004 ≤ B2 + 870000) (hv1 : v1 < 3 ∨ g1 v1) (hv2 : v2 < 3 ∨ g2 v2) (hv : EVb (σ1.2.2 28) (σ2.2.2 28) v1 v2) (hc : c < 2) {L1 L2 : Nat → Int32} (d1 : L1 1 = nI v1) (f1 : L2 1 = nI v2) (d2 : L1 2 = nI c) (f2 : L2 2 = nI c) (hL : LE3 L1 L2) : Pm n (fun k => x_side k 0 L1 σ1) (fun k => x_side k 0 L2 σ2) (KQ h1 h2 4004) := by
  refine Pm_suc rfl (fun k => by rw [x_side]) (fun k => by rw [x_side]) (fun m1 _ => ?_)
  refine Pm_ob (k_isMapE hS1 hS2 hv1 hv2 hv (by exact d1) (by exact f1)) (fun r1 r2 hr => ?_)
  obtain ⟨q0, q1, q2, q3⟩ := hr
  rw [← q0, q1, q2]
  refine Pm_ite Iff.rfl (fun _ _ => Pm_ob (k_wrongKind hS1 hS2 _ _) (fun s1 s2 hs => Pm_some hs)) (fun z _ => ?_)
  obtain ⟨p, hO, hM⟩ := q3 z
  obtain ⟨_, _, _, _, _, o6, _, _, _, _, o11, o12, o13, o14, _, _, _⟩ := hO
  -- om among them
  have b4 : ∀ (m j w : Nat) (N1 N2 : Nat → Int32) (τ1 τ2 : MS), j ≤ w → w ≤ 3996 → LE3 N1 N2 → N1 3 = nI f → N1 5 = nI (f + j) → KPu g1 g2 f w σ1 σ2 τ1 τ2 → Pm m (fun k => x_side k 4 N1 τ1) (fun k => x_side k 4 N2 τ2) (KQ h1 h2 4004) := by
    intro m
    induction m using Nat.strongRecOn with
    | ind m ih =>
    intro j w N1 N2 τ1 τ2 hj hw hN x3 x5 hK
    have y3 : N2 3 = nI f := (hN 3 (by omega)).symm.trans x3
    have y5 : N2 5 = nI (f + j) := (hN 5 (by omega)).symm.trans x5
    refine Pm_suc rfl (fun k => by rw [x_side]) (fun k => by rw [x_side]) (fun k1 hk1 => ?_)
    rw [hK.1.2.2.2.1, hK.2.1.2.2.2.1, x5, y5, n_cl (p := f + j) (by omega)]
    refine Pm_ite Iff.rfl (fun _ _ => ?_) (fun y _ => ?_)
    · refine Pm_suc rfl (fun k => by rw [x_side]) (fun k => by rw [x_side]) (fun k2 hk2 => ?_)
      refine Pm_ite (by rw [hN 4 (by omega)]) (fun _ _ => ?_) (fun _ _ => ?_)
      · refine Pm_suc rfl (fun k => by rw [x_side]) (fun k => by rw [x_side]) (fun k3 hk3 => ?_)
        exact Pm_ob (k_setP hK hS1 hS2 e1 e2 (by omega) (by omega) (by omega) (by omega) (by exact x3) (by exact y3)) (fun r1 r2 hr => Pm_some (KQ_mo hr (by omega)))
      · refine Pm_suc rfl (fun k => by rw [x_side]) (fun k => by rw [x_side]) (fun k3 hk3 => ?_)
        have hT1 : HS g1 l1 B1 h1 (mSc τ1 59 (N1 3)) := HS_c (PuS_HS hK.1 hS1) rfl rfl rfl
        have hT2 : HS g2 l2 B2 h2 (mSc τ2 59 (N2 3)) := HS_c (PuS_HS hK.2.1 hS2) rfl rfl rfl
        refine Pm_ob (k_fail (K := 4004) (e := 3) (by decide) hT1 hT2 rfl rfl) (fun r1 r2 hr => ?_)
        rw [hr.1, hr.2.1]
        exact Pm_some hr.2.2
    have hjw : j < w := by
      by_cases e : w ≤ j
      · exact absurd ((n_le (by omega) (by omega)).mpr (by omega)) y
      · omega
    have b7 : ∀ (m' : Nat) (M1 M2 : Nat → Int32), m' < m → LE3 M1 M2 → M1 3 = nI f → M1 5 = nI (f + j) → Pm m' (fun k => x_side k 7 M1 τ1) (fun k => x_side k 7 M2 τ2) (KQ h1 h2 4004) := by
      intro m' M1 M2 hm' hM z3 z5
      refine Pm_suc rfl (fun k => by rw [x_side]) (fun k => by rw [x_side]) (fun k2 hk2 => ?_)
      exact ih k2 (by omega) (j + 1) w _ _ _ _ (by omega) hw (LE_u (LE_u hM (hM 100 (by omega))) (by rw [hM 5 (by omega)])) z3 (by show M1 5 + 1 = _; rw [z5, n_add1, Nat.add_assoc]) hK
    have b5 : ∀ m', m' < m → Pm m' (fun k => x_side k 5 N1 τ1) (fun k => x_side k 5 N2 τ2) (KQ h1 h2 4004) := fun m' hm' => by
      refine Pm_suc rfl (fun k => by rw [x_side]) (fun k => by rw [x_side]) (fun k2 hk2 => ?_)
      exact b7 k2 _ _ (by omega) (LE_u hN rfl) x3 x5
    have b6 : ∀ m', m' < m → Pm m' (fun k => x_side k 6 N1 τ1) (fun k => x_side k 6 N2 τ2) (KQ h1 h2 4004) := fun m' hm' => by
      refine Pm_suc rfl (fun k => by rw [x_side]) (fun k => by rw [x_side]) (fun k2 hk2 => ?_)
      exact b7 k2 _ _ (by omega) (LE_u hN rfl) x3 x5
    refine Pm_ite (by rw [hN 4 (by omega)]) (fun _ _ => ?_) (fun _ _ => b5 k1 (by omega))
    refine Pm_chk (fun _ _ => ?_)
    exact Pm_ite (VC_0 (hK.2.2 j hjw)) (fun _ _ => b5 k1 (by omega)) (fun _ _ => b6 k1 (by omega))
  have lp : ∀ (m i : Nat) (N1 N2 : Nat → Int32) (τ1 τ2 : MS), i ≤ p → LE3 N1 N2 → N1 1 = nI v1 → N2 1 = nI v2 → N1 2 = nI c → N2 2 = nI c → N1 3 = nI f → N1 4 = nI i → KPu g1 g2 f i σ1 σ2 τ1 τ2 → Pm m (fun k => x_side k 2 N1 τ1) (fun k => x_side k 2 N2 τ2) (KQ h1 h2 4004) := by
    intro m
    induction m using Nat.strongRecOn with
    | ind m ih =>
    intro i N1 N2 τ1 τ2 hi hN a1 c1 a2 c2 a3 a4 hK
    have c4 : N2 4 = nI i := (hN 4 (by omega)).symm.trans a4
    have a28 : τ1.2.2 28 = σ1.2.2 28 := hK.1.2.1 28 (by decide)
    have b28 : τ2.2.2 28 = σ2.2.2 28 := hK.2.1.2.1 28 (by decide)
    refine Pm_suc rfl (fun k => by rw [x_side]) (fun k => by rw [x_side]) (fun k1 hk1 => ?_)
    rw [a1, c1, a2, c2, a4, c4, n_add1 v1, n_add1 v2, n_cl (p := v1 + 1) (by omega), n_cl (p := v2 + 1) (by omega), a28, b28, o11, o12, show nI v1 + 4 = nI (v1 + 4) from n_add (q := 4) (by omega), show nI v2 + 4 = nI (v2 + 4) from n_add (q := 4) (by omega), n_add (p := v1 + 4) (by omega), n_add (p := v2 + 4) (by omega), n_cl (p := v1 + 4 + i) (by omega), n_cl (p := v2 + 4 + i) (by omega)]
    refine Pm_chk (fun _ _ => ?_)
    refine Pm_ite Iff.rfl (fun y _ => ?_) (fun y _ => ?_)
    · refine Pm_suc rfl (fun k => by rw [x_side]) (fun k => by rw [x_side]) (fun k2 hk2 => ?_)
      exact b4 k2 0 i _ _ _ _ (Nat.zero_le _) (by omega) (LE_u (LE_u hN rfl) (hN 3 (by omega))) a3 a3 hK
    have hip : i < p := by
      by_cases e : p ≤ i
      · exact absurd ((n_le (by omega) (by omega)).mpr e) y
      · omega
    obtain ⟨u, v, u1, u2, u3, u4, u5, u6, u7⟩ := hM i hip
    rw [u1, u2, show nI u + 4 = nI (u + 4) from n_add (q := 4) (by omega), show nI v + 4 = nI (v + 4) from n_add (q := 4) (by omega), n_add (p := u + 4) (by omega), n_add (p := v + 4) (by omega), n_cl (p := u + 4 + c) (by omega), n_cl (p := v + 4 + c) (by omega)]
    refine Pm_chk (fun _ _ => ?_)
    refine Pm_chk (fun _ _ => ?_)
    have hvc : VC g1 g2 (σ1.2.2 28) (σ2.2.2 28) (σ1.2.2 28 (u + 4 + c)) (σ2.2.2 28 (v + 4 + c)) := by
      have : c = 0 ∨ c = 1 := by omega
      rcases this with rfl | rfl
      · exact u6
      · exact u7
    exact Pm_ob (k_push hK (by omega) hvc rfl rfl) (fun s1 s2 hs => ih k1 (by omega) (i + 1) _ _ _ _ (by omega) (LE_u hN rfl) a1 c1 a2 c2 a3 (by show nI i + 1 = _; rw [n_add1]) hs)
  refine Pm_suc rfl (fun k => by rw [x_side]) (fun k => by rw [x_side]) (fun m2 _ => ?_)
  rw [t1, t2]
  exact lp m2 0 _ _ _ _ (Nat.zero_le _) (LE_u (LE_u hL rfl) rfl) d1 f1 d2 f2 rfl rfl (KPu_0 t1 t2)
theorem k_character {v1 v2 : Nat} (hS1 : HS g1 l1 B1 h1 σ1) (hS2 : HS g2 l2 B2 h2 σ2) (e1 : σ1.1 56 = 0) (e2 : σ2.1 56 = 0) (hr1 : h1 + 5 ≤ B1 + 870000) (hr2 : h2 + 5 ≤ B2 + 870000) (hv1 : v1 < 3 ∨ g1 v1) (hv2 : v2 < 3 ∨ g2 v2) (hv : EVb (σ1.2.2 28) (σ2.2.2 28) v1 v2) {L1 L2 : Nat → Int32} (d1 : L1 1 = nI v1) (f1 : L2 1 = nI v2) : Pm n (fun k => x_character k 0 L1 σ1) (fun k => x_character k 0 L2 σ2) (KQ h1 h2 5) := by
  have kv := kdN_6 hS1 hv1
  have b2 : ∀ (m : Nat) (N1 N2 : Nat → Int32), Pm m (fun k => x_character k 2 N1 σ1) (fun k => x_character k 2 N2 σ2) (KQ h1 h2 5) := fun m N1 N2 => by
    refine Pm_suc rfl (fun k => by rw [x_character]) (fun k => by rw [x_character]) (fun m1 _ => ?_)
    refine Pm_ob (k_fail (K := 5) (e := 4) (by decide) hS1 hS2 rfl rfl) (fun r1 r2 hr => ?_)
    rw [hr.1, hr.2.1]
    exact Pm_some hr.2.2
  refine Pm_suc rfl (fun k => by rw [x_character]) (fun k => by rw [x_character]) (fun m1 _ => ?_)
  refine Pm_ob (Pm_t2 (s_kind hS1 hv1 (by exact d1)) (fun k => f_kind k _ _ _) (s_kind hS2 hv2 (by exact f1)) (fun k => f_kind k _ _ _)) (fun r1 r2 hr => ?_)
  rw [hr.1, hr.2, (EVb_sz hv).2.2]
  refine Pm_ite Iff.rfl (fun z _ => ?_) (fun _ _ => Pm_ob (k_wrongKind hS1 hS2 _ _) (fun s1 s2 hs => Pm_some hs))
  have z := (n_eq (q := 2) (by omega) (by decide)).mp z
  obtain ⟨q, hB⟩ := WhE_of hS1 hS2 hv1 hv2 hv z
  refine Pm_suc rfl (fun k => by rw [x_character]) (fun k => by rw [x_character]) (fun m2 _ => ?_)
  refine Pm_ob (Pm_un (s_intOf (b := 255) hS1 hB.1 (by decide) (by exact d1) rfl) (fun k => f_intOf k _ _ _ _) (s_intOf (b := 255) hS2 hB.2.1 (by decide) (by exact f1) rfl) (fun k => f_intOf k _ _ _ _) (k_intOf hS1 hS2 hB (by exact d1) (by exact f1) rfl)) (fun s1 s2 hs => ?_)
  obtain ⟨hr0, ⟨hr1', _⟩, ⟨hr2', _⟩⟩ := hs
  rw [← hr0, hr1', hr2']
  refine Pm_ite Iff.rfl (fun _ _ => b2 m2 _ _) (fun _ _ => ?_)
  refine Pm_ite Iff.rfl (fun _ _ => ?_) (fun _ _ => b2 m2 _ _)
  refine Pm_suc rfl (fun k => by rw [x_character]) (fun k => by rw [x_character]) (fun m3 _ => ?_)
  exact Pm_ob (k_byteString hS1 hS2 e1 e2 hr1 hr2 rfl) (fun u1 u2 hu => Pm_some hu)
theorem k_codeOf {v1 v2 : Nat} (hS1 : HS g1 l1 B1 h1 σ1) (hS2 : HS g2 l2 B2 h2 σ2) (e1 : σ1.1 56 = 0) (e2 : σ2.1 56 = 0) (hr1 : h1 + 70 ≤ B1 + 870000) (hr2 : h2 + 70 ≤ B2 + 870000) (hv1 : v1 < 3 ∨ g1 v1) (hv2 : v2 < 3 ∨ g2 v2) (hv : EVb (σ1.2.2 28) (σ2.2.2 28) v1 v2) {L1 L2 : Nat → Int32} (d1 : L1 1 = nI v1) (f1 : L2 1 = nI v2) : Pm n (fun k => x_codeOf k 0 L1 σ1) (fun k => x_codeOf k 0 L2 σ2) (KQ h1 h2 70) := by
  have kv := kdN_6 hS1 hv1
  refine Pm_suc rfl (fun k => by rw [x_codeOf]) (fun k => by rw [x_codeOf]) (fun m1 _ => ?_)
  refine Pm_ob (Pm_t2 (s_kind hS1 hv1 (by exact d1)) (fun k => f_kind k _ _ _) (s_kind hS2 hv2 (by exact f1)) (fun k => f_kind k _ _ _)) (fun r1 r2 hr => ?_)
  rw [hr.1, hr.2, (EVb_sz hv).2.2]
  refine Pm_ite Iff.rfl (fun z _ => ?_) (fun _ _ => Pm_ob (k_wrongKind hS1 hS2 _ _) (fun s1 s2 hs => Pm_some hs))
  have z := (n_eq (q := 4) (by omega) (by decide)).mp z
  obtain ⟨k, p, hO⟩ := OE_of hS1 hS2 (kdN_ge hS1 hv1 (by omega)) hv2 hv
  obtain ⟨_, _, _, _, _, o6, o7, _, _, _, o11, o12, o13, o14, _, _, o17⟩ := hO
  refine Pm_suc rfl (fun k => by rw [x_codeOf]) (fun k => by rw [x_codeOf]) (fun m2 _ => ?_)
  rw [d1, f1, n_add1, n_add1, n_cl (p := v1 + 1) (by omega), n_cl (p := v2 + 1) (by omega), o11, o12]
  refine Pm_chk (fun _ _ => ?_)
  refine Pm_ite Iff.rfl (fun w _ => ?_) (fun _ _ => ?_)
  · have w := (n_eq (q := 1) (by omega) (by decide)).mp w
    refine Pm_suc rfl (fun k => by rw [x_codeOf]) (fun k => by rw [x_codeOf]) (fun m3 _ => ?_)
    have hc : σ2.2.2 28 (v2 + 4) = σ1.2.2 28 (v1 + 4) := o17 (by omega) 0 (by omega)
    rw [d1, f1, show nI v1 + 4 = nI (v1 + 4) from n_add (q := 4) (by omega), show nI v2 + 4 = nI (v2 + 4) from n_add (q := 4) (by omega), n_cl (p := v1 + 4) (by omega), n_cl (p := v2 + 4) (by omega), hc]
    refine Pm_chk (fun _ _ => ?_)
    exact Pm_ob (k_small hS1 hS2 e1 e2 hr1 hr2 (fun i hi => rfl)) (fun u1 u2 hu => Pm_some hu)
  · refine Pm_ob (k_fail (K := 70) (e := 4) (by decide) hS1 hS2 rfl rfl) (fun u1 u2 hu => ?_)
    rw [hu.1, hu.2.1]
    exact Pm_some hu.2.2
end KSD
