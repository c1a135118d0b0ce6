/-! Two runs side by side (reference): what is left without one, new atoms. -/
section KWO
variable {g1 g2 : Nat → Prop} {l1 l2 : List Nat} {B1 h1 B2 h2 n : Nat} {σ1 σ2 : MS}
theorem k_without {f v1 v2 k p i : Nat} (hS1 : HS g1 l1 B1 h1 σ1) (hS2 : HS g2 l2 B2 h2 σ2) (e1 : σ1.1 56 = 0) (e2 : σ2.1 56 = 0) (t1 : σ1.1 59 = nI f) (t2 : σ2.1 59 = nI f) (hf : f ≤ 177000) (hr1 : h1 + 4004 ≤ B1 + 870000) (hr2 : h2 + 4004 ≤ B2 + 870000) (hO : OE g1 g2 (σ1.2.2 28) (σ2.2.2 28) v1 v2 k p) (h4 : 4 ≤ k) (hi : i < p) {L1 L2 : Nat → Int32} (d1 : L1 1 = nI v1) (f1 : L2 1 = nI v2) (d2 : L1 2 = nI i) (hL : LEn 2 L1 L2) : Pm n (fun k => x_without k 0 L1 σ1) (fun k => x_without k 0 L2 σ2) (KQ h1 h2 4004) := by
  obtain ⟨_, _, _, _, k6, o6, o7, _, o9, o10, o11, o12, o13, o14, _, o16, o17⟩ := hO
  refine Pm_suc rfl (fun k => by rw [x_without]) (fun k => by rw [x_without]) (fun m1 _ => ?_)
  rw [d1, f1, n_add1, n_add1, n_cl (p := v1 + 1) (by omega), n_cl (p := v2 + 1) (by omega), n_cl (p := v1) (by omega), n_cl (p := v2) (by omega), o9, o10, o11, o12]
  refine Pm_chk (fun _ _ => ?_)
  refine Pm_chk (fun _ _ => ?_)
  refine Pm_ite Iff.rfl (fun z _ => ?_) (fun z _ => ?_)
  · have z := (n_eq (q := 4) (by omega) (by decide)).mp z
    have ca := o17 (by omega)
    have lp : ∀ (m j d : Nat) (N1 N2 : Nat → Int32) (τ1 τ2 : MS), j ≤ p → (j ≤ i → d = j) → (i < j → d + 1 = j) → LEn 2 N1 N2 → N1 1 = nI v1 → N2 1 = nI v2 → N1 2 = nI i → N1 3 = nI p → N1 4 = nI d → N1 5 = nI j → (∀ j, τ1.1 j = σ1.1 j) → (∀ j, τ2.1 j = σ2.1 j) → (∀ j, j ≠ 51 → τ1.2.2 j = σ1.2.2 j) → (∀ j, j ≠ 51 → τ2.2.2 j = σ2.2.2 j) → AgN (τ1.2.2 51) (τ2.2.2 51) d → Pm m (fun k => x_without k 1 N1 τ1) (fun k => x_without k 1 N2 τ2) (KQ h1 h2 4004) := by
      intro m
      induction m using Nat.strongRecOn with
      | ind m ih =>
      intro j d N1 N2 τ1 τ2 hj hd1 hd2 hN x1 y1 x2 x3 x4 x5 s1 s2 u1 u2 hC
      have y2 : N2 2 = nI i := (hN 2 (by omega)).symm.trans x2
      have y3 : N2 3 = nI p := (hN 3 (by omega)).symm.trans x3
      have y4 : N2 4 = nI d := (hN 4 (by omega)).symm.trans x4
      have y5 : N2 5 = nI j := (hN 5 (by omega)).symm.trans x5
      refine Pm_suc rfl (fun k => by rw [x_without]) (fun k => by rw [x_without]) (fun k1 hk1 => ?_)
      rw [x1, y1, x3, y3, x4, y4, x5, y5]
      refine Pm_ite Iff.rfl (fun y _ => ?_) (fun y _ => ?_)
      · have y := (n_le (by omega) (by omega)).mp y
        have e : d = p - 1 := by omega
        rw [e] at hC
        refine Pm_suc rfl (fun k => by rw [x_without]) (fun k => by rw [x_without]) (fun k2 hk2 => ?_)
        rw [x3, y3, show nI p - 1 = nI (p - 1) from n_sub (p := p) (q := 1) (by omega) (by omega)]
        exact Pm_ob (k_stringOf51 (f1 := 0) (f2 := 0) (w := p - 1) (HS_c hS1 (s1 54) (s1 55) (u1 28 (by decide))) (HS_c hS2 (s2 54) (s2 55) (u2 28 (by decide))) ((s1 56).trans e1) ((s2 56).trans e2) hr1 hr2 (by omega) (fun _ => by omega) (fun _ => by omega) (fun i hi => by rw [Nat.zero_add]; exact hC i hi) rfl rfl rfl rfl) (fun r1 r2 hr => Pm_some hr)
      have hjp : j < p := by
        by_cases e : p ≤ j
        · exact absurd ((n_le (by omega) (by omega)).mpr e) y
        · omega
      have hdj : d ≤ j := by omega
      rw [show nI v1 + 4 = nI (v1 + 4) from n_add (q := 4) (by omega), show nI v2 + 4 = nI (v2 + 4) from n_add (q := 4) (by omega), n_add (p := v1 + 4) (by omega), n_add (p := v2 + 4) (by omega), n_cl (p := v1 + 4 + j) (by omega), n_cl (p := v2 + 4 + j) (by omega), n_cl (p := d) (by omega)]
      refine Pm_chk (fun _ _ => ?_)
      refine Pm_chk (fun _ _ => ?_)
      show Pm k1 (fun k => x_without k 2 N1 (mAr τ1 51 d (τ1.2.2 28 (v1 + 4 + j)))) (fun k => x_without k 2 N2 (mAr τ2 51 d (τ2.2.2 28 (v2 + 4 + j)))) _
      have hC' : AgN ((mAr τ1 51 d (τ1.2.2 28 (v1 + 4 + j))).2.2 51) ((mAr τ2 51 d (τ2.2.2 28 (v2 + 4 + j))).2.2 51) (d + 1) := by
        rw [mAr_s, mAr_s]
        exact AgN_up hC (by rw [u1 28 (by decide), u2 28 (by decide)]; exact (ca j hjp).symm)
      have c4 : ∀ (m' d' : Nat) (M1 M2 : Nat → Int32), m' < k1 → d' ≤ d + 1 → (j + 1 ≤ i → d' = j + 1) → (i < j + 1 → d' + 1 = j + 1) → LEn 2 M1 M2 → M1 1 = nI v1 → M2 1 = nI v2 → M1 2 = nI i → M1 3 = nI p → M1 101 + M1 100 = nI d' → M1 5 = nI j → Pm m' (fun k => x_without k 4 M1 (mAr τ1 51 d (τ1.2.2 28 (v1 + 4 + j)))) (fun k => x_without k 4 M2 (mAr τ2 51 d (τ2.2.2 28 (v2 + 4 + j)))) (KQ h1 h2 4004) := by
        intro m' d' M1 M2 hm' hd' a1 a2 hM z1 w1 z2 z3 z4 z5
        refine Pm_suc rfl (fun k => by rw [x_without]) (fun k => by rw [x_without]) (fun k2 hk2 => ?_)
        exact ih k2 (by omega) (j + 1) d' _ _ _ _ (by omega) a1 a2 (LEn_u (LEn_u hM (by rw [hM 101 (by omega), hM 100 (by omega)])) (by rw [hM 5 (by omega)])) z1 w1 z2 z3 z4 (by show M1 5 + 1 = _; rw [z5, n_add1]) s1 s2 (fun j hj => (mAr_o hj).trans (u1 j hj)) (fun j hj => (mAr_o hj).trans (u2 j hj)) (fun a ha => hC' a (by omega))
      refine Pm_suc rfl (fun k => by rw [x_without]) (fun k => by rw [x_without]) (fun k2 hk2 => ?_)
      rw [x5, y5, x2, y2, x4, y4]
      refine Pm_ite Iff.rfl (fun y _ => ?_) (fun y _ => ?_)
      · have y := (n_eq (by omega) (by omega)).mp y
        exact c4 k2 d _ _ (by omega) (by omega) (by omega) (by omega) (LEn_u (LEn_u hN rfl) rfl) x1 y1 x2 x3 (by show nI d + 0 = _; exact Int32.add_zero _) x5
      · have y : j ≠ i := fun e => y (by rw [e])
        have hM : LEn 2 (upd N1 100 (nI d)) (upd N2 100 (nI d)) := LEn_u hN rfl
        refine Pm_suc rfl (fun k => by rw [x_without]) (fun k => by rw [x_without]) (fun k3 hk3 => ?_)
        exact c4 k3 (d + 1) _ _ (by omega) (by omega) (by omega) (by omega) (LEn_u (LEn_u hM rfl) (hM 100 (by omega))) x1 y1 x2 x3 (by show nI d + 1 = _; rw [n_add1]) x5
    exact lp m1 0 0 _ _ _ _ (Nat.zero_le _) (by omega) (by omega) (LEn_u (LEn_u (LEn_u hL rfl) rfl) rfl) d1 f1 d2 rfl rfl rfl (fun _ => rfl) (fun _ => rfl) (fun _ _ => rfl) (fun _ _ => rfl) (fun i hi => absurd hi (Nat.not_lt_zero i))
  have k5 : 5 ≤ k := by
    by_cases e : k = 4
    · exact absurd (by rw [e]; rfl) z
    · omega
  have ca := o16 k5
  have c11 : ∀ (m2 : Nat) (O1 O2 : Nat → Int32) (r1 r2 : Int32 × MS), O1 100 = r1.1 → O2 100 = r2.1 → KQ h1 h2 4004 r1 r2 → Pm m2 (fun k => x_without k 11 O1 r1.2) (fun k => x_without k 11 O2 r2.2) (KQ h1 h2 4004) := fun m2 O1 O2 r1 r2 u1 u2 hr => by
    refine Pm_suc rfl (fun k => by rw [x_without]) (fun k => by rw [x_without]) (fun m3 _ => ?_)
    rw [u1, u2]
    exact Pm_some hr
  have lp : ∀ (m j w : Nat) (N1 N2 : Nat → Int32) (τ1 τ2 : MS), j ≤ p → w ≤ j → LEn 2 N1 N2 → N1 1 = nI v1 → N2 1 = nI v2 → N1 3 = nI p → N1 4 = nI f → N1 5 = nI j → KPu g1 g2 f w σ1 σ2 τ1 τ2 → Pm m (fun k => x_without k 7 N1 τ1) (fun k => x_without k 7 N2 τ2) (KQ h1 h2 4004) := by
    intro m
    induction m using Nat.strongRecOn with
    | ind m ih =>
    intro j w N1 N2 τ1 τ2 hj hw hN x1 y1 x3 x4 x5 hK
    have y3 : N2 3 = nI p := (hN 3 (by omega)).symm.trans x3
    have y4 : N2 4 = nI f := (hN 4 (by omega)).symm.trans x4
    have y5 : N2 5 = nI j := (hN 5 (by omega)).symm.trans x5
    have a28 : τ1.2.2 28 = σ1.2.2 28 := hK.1.2.1 28 (by decide)
    have b28 : τ2.2.2 28 = σ2.2.2 28 := hK.2.1.2.1 28 (by decide)
    have c8 : ∀ (m' w' : Nat) (ρ1 ρ2 : MS), m' < m → j < p → w' ≤ j + 1 → KPu g1 g2 f w' σ1 σ2 ρ1 ρ2 → Pm m' (fun k => x_without k 8 N1 ρ1) (fun k => x_without k 8 N2 ρ2) (KQ h1 h2 4004) := by
      intro m' w' ρ1 ρ2 hm' hjp hw' hK'
      refine Pm_suc rfl (fun k => by rw [x_without]) (fun k => by rw [x_without]) (fun k2 hk2 => ?_)
      exact ih k2 (by omega) (j + 1) w' _ _ _ _ (by omega) hw' (LEn_u hN (by rw [x5, y5])) x1 y1 x3 x4 (by show N1 5 + 1 = _; rw [x5, n_add1]) hK'
    refine Pm_suc rfl (fun k => by rw [x_without]) (fun k => by rw [x_without]) (fun k1 hk1 => ?_)
    rw [x1, y1, x3, y3, x5, y5, a28, b28, hN 2 (by omega)]
    refine Pm_ite Iff.rfl (fun y _ => ?_) (fun y _ => ?_)
    · refine Pm_suc rfl (fun k => by rw [x_without]) (fun k => by rw [x_without]) (fun k2 hk2 => ?_)
      rw [x1, y1, n_cl (p := v1) (by omega), n_cl (p := v2) (by omega), a28, b28, o9, o10]
      refine Pm_chk (fun _ _ => ?_)
      refine Pm_ite Iff.rfl (fun _ _ => ?_) (fun _ _ => ?_)
      · exact Pm_ob (k_setP hK hS1 hS2 e1 e2 (by omega) (by omega) (by omega) (by omega) (by exact x4) (by exact y4)) (fun r1 r2 hr => c11 k2 _ _ r1 r2 rfl rfl (KQ_mo hr (by omega)))
      · refine Pm_suc rfl (fun k => by rw [x_without]) (fun k => by rw [x_without]) (fun k3 hk3 => ?_)
        exact Pm_ob (k_tupP hK hS1 hS2 e1 e2 (by omega) (by omega) (by omega) (by exact x4) (by exact y4)) (fun r1 r2 hr => c11 k3 _ _ r1 r2 rfl rfl (KQ_mo hr (by omega)))
    have hjp : j < p := by
      by_cases e : p ≤ j
      · exact absurd ((n_le (by omega) (by omega)).mpr e) y
      · omega
    refine Pm_ite Iff.rfl (fun _ _ => c8 k1 w _ _ (by omega) hjp (by omega) hK) (fun _ _ => ?_)
    rw [show nI v1 + 4 = nI (v1 + 4) from n_add (q := 4) (by omega), show nI v2 + 4 = nI (v2 + 4) from n_add (q := 4) (by omega), n_add (p := v1 + 4) (by omega), n_add (p := v2 + 4) (by omega), n_cl (p := v1 + 4 + j) (by omega), n_cl (p := v2 + 4 + j) (by omega)]
    refine Pm_chk (fun _ _ => ?_)
    exact Pm_ob (k_push hK (by omega) (ca j hjp) rfl rfl) (fun r1 r2 hr => c8 k1 (w + 1) _ _ (by omega) hjp (by omega) hr)
  refine Pm_suc rfl (fun k => by rw [x_without]) (fun k => by rw [x_without]) (fun m2 _ => ?_)
  rw [t1, t2]
  exact lp m2 0 0 _ _ _ _ (Nat.zero_le _) (Nat.le_refl _) (LEn_u (LEn_u (LEn_u hL rfl) rfl) rfl) d1 f1 rfl rfl rfl (KPu_0 t1 t2)
end KWO
