section JnS180
/-! Two runs side by side (reference): what is drawn by the seed. -/
section KDW
variable {g1 g2 : Nat → Prop} {l1 l2 : List Nat} {B1 h1 B2 h2 n : Nat} {σ1 σ2 : MS}
theorem Pm_wl {w1 w2 : Nat → Int64} {x1 x2 : Nat → Option (Int32 × MS)} {Q : Int32 × MS → Int32 × MS → Prop} (t1 : ∀ k, Wk (x1 k) w1) (t2 : ∀ k, Wk (x2 k) w2) (t : Pm n x1 x2 Q) : Pm n x1 x2 (fun r1 r2 => Q r1 r2 ∧ r1.2.2.1 = w1 ∧ r2.2.2.1 = w2) := fun k hk r1 r2 e1 e2 => ⟨t k hk r1 r2 e1 e2, t1 k r1 e1, t2 k r2 e2⟩
theorem Pm_none {a : Nat → Option (Int32 × MS)} {Q : Int32 × MS → Int32 × MS → Prop} : Pm n (fun _ => none) a Q := fun k _ r1 r2 e _ => by cases e
/-- alike, and the seeds too -/
def KW (h1 h2 K : Nat) (r1 r2 : Int32 × MS) : Prop := KQ h1 h2 K r1 r2 ∧ r1.2.2.1 96 = r2.2.2.1 96
theorem k_draw {L1 L2 : Nat → Int32} (hL : L1 1 = L2 1) (hw : σ1.2.1 96 = σ2.2.1 96) : Pm n (fun k => x_draw k 0 L1 σ1) (fun k => x_draw k 0 L2 σ2) (fun r1 r2 => r1.1 = r2.1 ∧ ∃ w1 w2 : Nat → Int64, r1.2 = (σ1.1, w1, σ1.2.2) ∧ r2.2 = (σ2.1, w2, σ2.2.2) ∧ w1 96 = w2 96) := by
  refine Pm_suc rfl (fun k => by rw [x_draw]) (fun k => by rw [x_draw]) (fun m1 _ => ?_)
  have e : updW σ1.2.1 96 (((σ1.2.1 96) * 6364136223846793005) + 1442695040888963407) 96 = updW σ2.2.1 96 (((σ2.2.1 96) * 6364136223846793005) + 1442695040888963407) 96 := by
    unfold updW; rw [if_pos rfl, if_pos rfl, hw]
  generalize updW σ1.2.1 96 (((σ1.2.1 96) * 6364136223846793005) + 1442695040888963407) = w1 at e ⊢
  generalize updW σ2.2.1 96 (((σ2.2.1 96) * 6364136223846793005) + 1442695040888963407) = w2 at e ⊢
  refine Pm_suc rfl (fun k => by rw [x_draw]) (fun k => by rw [x_draw]) (fun m2 _ => ?_)
  dsimp only
  rw [hL, e]
  exact Pm_ite Iff.rfl (fun _ _ => Pm_none) (fun _ _ => Pm_some ⟨rfl, w1, w2, rfl, rfl, e⟩)
theorem k_drawn {v1 v2 : Nat} (hS1 : HS g1 l1 B1 h1 σ1) (hS2 : HS g2 l2 B2 h2 σ2) (e1 : σ1.1 56 = 0) (e2 : σ2.1 56 = 0) (hr1 : h1 + 70 ≤ B1 + 870000) (hr2 : h2 + 70 ≤ B2 + 870000) (hv1 : v1 < 3 ∨ g1 v1) (hv2 : v2 < 3 ∨ g2 v2) (hv : EVb (σ1.2.2 28) (σ2.2.2 28) v1 v2) (hw : σ1.2.1 96 = σ2.2.1 96) {L1 L2 : Nat → Int32} (d1 : L1 1 = nI v1) (f1 : L2 1 = nI v2) (hL : LEn 2 L1 L2) : Pm n (fun k => x_drawn k 0 L1 σ1) (fun k => x_drawn k 0 L2 σ2) (KW h1 h2 70) := by
  have kv := kdN_6 hS1 hv1
  have c8 : ∀ (m : Nat) (N1 N2 : Nat → Int32), LEn 2 N1 N2 → Pm m (fun k => x_drawn k 8 N1 σ1) (fun k => x_drawn k 8 N2 σ2) (KW h1 h2 70) := fun m N1 N2 hN => by
    refine Pm_suc rfl (fun k => by rw [x_drawn]) (fun k => by rw [x_drawn]) (fun m1 _ => ?_)
    refine Pm_ob (k_draw (by exact hN 100 (by omega)) hw) (fun r1 r2 hr => ?_)
    obtain ⟨r0, w1, w2, q1, q2, q3⟩ := hr
    rw [← r0, q1, q2, hN 102 (by omega)]
    refine Pm_ob (Pm_wl (fun k => wl_small k _ _ _) (fun k => wl_small k _ _ _) (k_small (σ1 := (σ1.1, w1, σ1.2.2)) (σ2 := (σ2.1, w2, σ2.2.2)) (HS_c hS1 rfl rfl rfl) (HS_c hS2 rfl rfl rfl) e1 e2 hr1 hr2 (fun i hi => rfl))) (fun s1 s2 hs => Pm_some ⟨hs.1, ?_⟩)
    show s1.2.2.1 96 = s2.2.2.1 96
    rw [hs.2.1, hs.2.2]
    exact q3
  have c5 : ∀ (m : Nat) (N1 N2 : Nat → Int32), Pm m (fun k => x_drawn k 5 N1 σ1) (fun k => x_drawn k 5 N2 σ2) (KW h1 h2 70) := fun m N1 N2 => by
    refine Pm_suc rfl (fun k => by rw [x_drawn]) (fun k => by rw [x_drawn]) (fun m1 _ => ?_)
    refine Pm_ob (k_fail (K := 70) (e := 4) (by decide) hS1 hS2 rfl rfl) (fun r1 r2 hr => ?_)
    rw [hr.1, hr.2.1]
    exact Pm_some ⟨hr.2.2, hw⟩
  have c6 : ∀ (m : Nat) (N1 N2 : Nat → Int32), LEn 2 N1 N2 → Pm m (fun k => x_drawn k 6 N1 σ1) (fun k => x_drawn k 6 N2 σ2) (KW h1 h2 70) := fun m N1 N2 hN => by
    refine Pm_suc rfl (fun k => by rw [x_drawn]) (fun k => by rw [x_drawn]) (fun m1 _ => ?_)
    refine Pm_ite (by rw [hN 4 (by omega)]) (fun _ _ => ?_) (fun _ _ => c8 m1 _ _ (LEn_u (LEn_u hN rfl) rfl))
    have hM : LEn 2 (upd N1 101 1) (upd N2 101 1) := LEn_u hN rfl
    refine Pm_suc rfl (fun k => by rw [x_drawn]) (fun k => by rw [x_drawn]) (fun m2 _ => ?_)
    exact c8 m2 _ _ (LEn_u (LEn_u hM (hM 3 (by omega))) (hM 101 (by omega)))
  have c4 : ∀ (m : Nat) (N1 N2 : Nat → Int32), LEn 2 N1 N2 → Pm m (fun k => x_drawn k 4 N1 σ1) (fun k => x_drawn k 4 N2 σ2) (KW h1 h2 70) := fun m N1 N2 hN => by
    have hM := LEn_u (j := 4) hN (hN 100 (by omega))
    refine Pm_suc rfl (fun k => by rw [x_drawn]) (fun k => by rw [x_drawn]) (fun m1 _ => ?_)
    refine Pm_ite (by rw [hN 3 (by omega)]) (fun _ _ => c5 m1 _ _) (fun _ _ => ?_)
    refine Pm_ite (by rw [hN 100 (by omega)]) (fun _ _ => ?_) (fun _ _ => c6 m1 _ _ hM)
    exact Pm_ite (by rw [hN 3 (by omega)]) (fun _ _ => c5 m1 _ _) (fun _ _ => c6 m1 _ _ hM)
  have c3 : ∀ (m : Nat) (N1 N2 : Nat → Int32), LEn 2 N1 N2 → Pm m (fun k => x_drawn k 3 N1 σ1) (fun k => x_drawn k 3 N2 σ2) (KW h1 h2 70) := fun m N1 N2 hN => by
    refine Pm_suc rfl (fun k => by rw [x_drawn]) (fun k => by rw [x_drawn]) (fun m1 _ => ?_)
    exact c4 m1 _ _ (LEn_u hN rfl)
  have c2 : kdN (σ1.2.2 28) v1 = 2 → ∀ (m : Nat) (N1 N2 : Nat → Int32), LEn 2 N1 N2 → N1 1 = nI v1 → N2 1 = nI v2 → Pm m (fun k => x_drawn k 2 N1 σ1) (fun k => x_drawn k 2 N2 σ2) (KW h1 h2 70) := fun hk m N1 N2 hN x1 y1 => by
    obtain ⟨k, p, hO⟩ := OE_of hS1 hS2 (kdN_ge hS1 hv1 (by omega)) hv2 hv
    obtain ⟨_, _, _, _, _, o6, o7, _, _, _, o11, o12, o13, o14, _, _, o17⟩ := hO
    obtain ⟨q, hA⟩ := WhE_of hS1 hS2 hv1 hv2 hv hk
    have ca := o17 (by omega)
    have hM : ∀ x y : Int32, x = y → LEn 2 (upd (upd N1 3 (N1 100)) 100 x) (upd (upd N2 3 (N2 100)) 100 y) := fun x y e => LEn_u (LEn_u hN (hN 100 (by omega))) e
    have hM' := LEn_u (j := 3) hN (hN 100 (by omega))
    refine Pm_suc rfl (fun k => by rw [x_drawn]) (fun k => by rw [x_drawn]) (fun m1 _ => ?_)
    rw [x1, y1, n_add1, n_add1, show nI v1 + 5 = nI (v1 + 5) from n_add (q := 5) (by omega), show nI v2 + 5 = nI (v2 + 5) from n_add (q := 5) (by omega), show nI v1 + 6 = nI (v1 + 6) from n_add (q := 6) (by omega), show nI v2 + 6 = nI (v2 + 6) from n_add (q := 6) (by omega), n_cl (p := v1 + 1) (by omega), n_cl (p := v2 + 1) (by omega), o11, o12]
    refine Pm_chk (fun _ _ => ?_)
    refine Pm_ite Iff.rfl (fun z _ => ?_) (fun _ _ => c3 m1 _ _ hM')
    have z := (n_eq (q := 3) (by omega) (by decide)).mp z
    have u1 : σ2.2.2 28 (v2 + 5) = σ1.2.2 28 (v1 + 5) := ca 1 (by omega)
    have u2 : σ2.2.2 28 (v2 + 6) = σ1.2.2 28 (v1 + 6) := ca 2 (by omega)
    refine Pm_ob (k_signOf hS1 hS2 hA rfl rfl) (fun r1 r2 hr => ?_)
    rw [hr.1, hr.2]
    refine Pm_ite Iff.rfl (fun _ _ => c3 m1 _ _ hM') (fun _ _ => ?_)
    rw [n_cl (p := v1 + 5) (by omega), n_cl (p := v2 + 5) (by omega), n_cl (p := v1 + 6) (by omega), n_cl (p := v2 + 6) (by omega)]
    refine Pm_chk (fun _ _ => ?_)
    refine Pm_ite (by show σ1.2.2 28 (v1 + 5) = 65535 ↔ σ2.2.2 28 (v2 + 5) = 65535; rw [u1]) (fun _ _ => ?_) (fun _ _ => c3 m1 _ _ hM')
    refine Pm_chk (fun _ _ => ?_)
    exact Pm_ite (by show σ1.2.2 28 (v1 + 6) = 32767 ↔ σ2.2.2 28 (v2 + 6) = 32767; rw [u2]) (fun _ _ => c4 m1 _ _ (hM 1 1 rfl)) (fun _ _ => c3 m1 _ _ hM')
  have c12 : ∀ (m : Nat) (N1 N2 : Nat → Int32) (r1 r2 : Int32 × MS), N1 100 = r1.1 → N2 100 = r2.1 → KW h1 h2 70 r1 r2 → Pm m (fun k => x_drawn k 12 N1 r1.2) (fun k => x_drawn k 12 N2 r2.2) (KW h1 h2 70) := fun m N1 N2 r1 r2 x1 x2 hr => by
    refine Pm_suc rfl (fun k => by rw [x_drawn]) (fun k => by rw [x_drawn]) (fun m1 _ => ?_)
    rw [x1, x2]
    exact Pm_some hr
  have c10 : 4 ≤ kdN (σ1.2.2 28) v1 → ∀ (m : Nat) (N1 N2 : Nat → Int32), N1 1 = nI v1 → N2 1 = nI v2 → Pm m (fun k => x_drawn k 10 N1 σ1) (fun k => x_drawn k 10 N2 σ2) (KW h1 h2 70) := by
    intro h4 m N1 N2 x1 y1
    obtain ⟨k, p, hO⟩ := OE_of hS1 hS2 (kdN_ge hS1 hv1 (by omega)) hv2 hv
    have hO' := hO
    obtain ⟨_, _, _, _, _, o6, o7, _, _, _, o11, o12, o13, o14, _, _, _⟩ := hO'
    refine Pm_suc rfl (fun k => by rw [x_drawn]) (fun k => by rw [x_drawn]) (fun m1 _ => ?_)
    rw [x1, y1, n_add1, n_add1, n_cl (p := v1 + 1) (by omega), n_cl (p := v2 + 1) (by omega), o11, o12]
    refine Pm_chk (fun _ _ => ?_)
    refine Pm_ite Iff.rfl (fun _ _ => c12 m1 _ _ (0, σ1) (0, σ2) rfl rfl ⟨KQ_same (a := 0) (b := 0) hS1 hS2 (by rw [e1, e2]) (by decide) (by decide) (EVb_0 (by decide)), hw⟩) (fun z _ => ?_)
    have hp : 1 ≤ p := by
      by_cases e : p = 0
      · exact absurd (by rw [e]; rfl) z
      · omega
    refine Pm_suc rfl (fun k => by rw [x_drawn]) (fun k => by rw [x_drawn]) (fun m2 _ => ?_)
    rw [x1, y1, n_add1, n_add1, n_cl (p := v1 + 1) (by omega), n_cl (p := v2 + 1) (by omega), o11, o12]
    refine Pm_chk (fun _ _ => ?_)
    refine Pm_ob (Pm_un (s_draw (n := p) hp (by omega) rfl) (fun k => f_draw k _ _ _) (s_draw (n := p) hp (by omega) rfl) (fun k => f_draw k _ _ _) (k_draw rfl hw)) (fun r1 r2 hr => ?_)
    obtain ⟨⟨r0, w1, w2, q1, q2, q3⟩, ⟨_, i, hi, ei⟩, _⟩ := hr
    rw [← r0, q1, q2, ei]
    refine Pm_ob (Pm_wl (fun k => wl_memberAt k _ _ _) (fun k => wl_memberAt k _ _ _) (k_memberAt (σ1 := (σ1.1, w1, σ1.2.2)) (σ2 := (σ2.1, w2, σ2.2.2)) (HS_c hS1 rfl rfl rfl) (HS_c hS2 rfl rfl rfl) e1 e2 (by omega) (by omega) hO (by omega) hi rfl rfl rfl rfl)) (fun s1 s2 hs => c12 m2 _ _ s1 s2 rfl rfl ⟨KQ_mo hs.1 (by omega), ?_⟩)
    rw [hs.2.1, hs.2.2]
    exact q3
  refine Pm_suc rfl (fun k => by rw [x_drawn]) (fun k => by rw [x_drawn]) (fun m1 _ => ?_)
  refine Pm_ob (Pm_t2 (s_kind hS1 hv1 (by exact d1)) (fun k => f_kind k _ _ _) (s_kind hS2 hv2 (by exact f1)) (fun k => f_kind k _ _ _)) (fun r1 r2 hr => ?_)
  rw [hr.1, hr.2, (EVb_sz hv).2.2]
  refine Pm_ite Iff.rfl (fun z _ => ?_) (fun _ _ => ?_)
  · have z := (n_eq (q := 2) (by omega) (by decide)).mp z
    obtain ⟨k, p, hO⟩ := OE_of hS1 hS2 (kdN_ge hS1 hv1 (by omega)) hv2 hv
    obtain ⟨_, _, _, _, _, o6, o7, _, _, _, o11, o12, o13, o14, _, _, _⟩ := hO
    obtain ⟨q, hA⟩ := WhE_of hS1 hS2 hv1 hv2 hv z
    rw [d1, f1, n_add1, n_add1, n_cl (p := v1 + 1) (by omega), n_cl (p := v2 + 1) (by omega)]
    refine Pm_chk (fun _ _ => ?_)
    refine Pm_ite (by show σ1.2.2 28 (v1 + 1) ≤ 3 ↔ σ2.2.2 28 (v2 + 1) ≤ 3; rw [o11, o12]) (fun _ _ => ?_) (fun _ _ => c2 z m1 _ _ (LEn_u (LEn_u hL rfl) rfl) d1 f1)
    have hM := LEn_u (j := 2) (x := nI (kdN (σ1.2.2 28) v1)) hL rfl
    refine Pm_suc rfl (fun k => by rw [x_drawn]) (fun k => by rw [x_drawn]) (fun m2 _ => ?_)
    refine Pm_ob (Pm_un (s_intOf (b := 2147483646) hS1 hA.1 (by decide) (by exact d1) rfl) (fun k => f_intOf k _ _ _ _) (s_intOf (b := 2147483646) hS2 hA.2.1 (by decide) (by exact f1) rfl) (fun k => f_intOf k _ _ _ _) (k_intOf hS1 hS2 hA (by exact d1) (by exact f1) rfl)) (fun s1 s2 hs => ?_)
    obtain ⟨hr0, ⟨hr1', _⟩, ⟨hr2', _⟩⟩ := hs
    rw [← hr0, hr1', hr2']
    exact c2 z m2 _ _ (LEn_u hM rfl) d1 f1
  refine Pm_suc rfl (fun k => by rw [x_drawn]) (fun k => by rw [x_drawn]) (fun m2 _ => ?_)
  refine Pm_ite Iff.rfl (fun z _ => ?_) (fun _ _ => ?_)
  · exact c10 ((n_le (p := 4) (by decide) (by omega)).mp z) m2 _ _ d1 f1
  · refine Pm_ob (Pm_wl (fun k => wl_wrongKind k _ _ _) (fun k => wl_wrongKind k _ _ _) (k_wrongKind (K := 70) hS1 hS2 _ _)) (fun s1 s2 hs => Pm_some ⟨hs.1, ?_⟩)
    show s1.2.2.1 96 = s2.2.2.1 96
    rw [hs.2.1, hs.2.2]
    exact hw
end KDW
end JnS180
section JnS181
/-! Two runs side by side (reference): what is left without one, new atoms. -/
section KWO
variable {g1 g2 : Nat → Prop} {l1 l2 : List Nat} {B1 h1 B2 h2 n : Nat} {σ1 σ2 : MS}
theorem k_without {f v1 v2 k p i : Nat} (hS1 : HS g1 l1 B1 h1 σ1) (hS2 : HS g2 l2 B2 h2 σ2) (e1 : σ1.1 56 = 0) (e2 : σ2.1 56 = 0) (t1 : σ1.1 59 = nI f) (t2 : σ2.1 59 = nI f) (hf : f ≤ 177000) (hr1 : h1 + 4004 ≤ B1 + 870000) (hr2 : h2 + 4004 ≤ B2 + 870000) (hO : OE g1 g2 (σ1.2.2 28) (σ2.2.2 28) v1 v2 k p) (h4 : 4 ≤ k) (hi : i < p) {L1 L2 : Nat → Int32} (d1 : L1 1 = nI v1) (f1 : L2 1 = nI v2) (d2 : L1 2 = nI i) (hL : LEn 2 L1 L2) : Pm n (fun k => x_without k 0 L1 σ1) (fun k => x_without k 0 L2 σ2) (KQ h1 h2 4004) := by
  obtain ⟨_, _, _, _, k6, o6, o7, _, o9, o10, o11, o12, o13, o14, _, o16, o17⟩ := hO
  refine Pm_suc rfl (fun k => by rw [x_without]) (fun k => by rw [x_without]) (fun m1 _ => ?_)
  rw [d1, f1, n_add1, n_add1, n_cl (p := v1 + 1) (by omega), n_cl (p := v2 + 1) (by omega), n_cl (p := v1) (by omega), n_cl (p := v2) (by omega), o9, o10, o11, o12]
  refine Pm_chk (fun _ _ => ?_)
  refine Pm_chk (fun _ _ => ?_)
  refine Pm_ite Iff.rfl (fun z _ => ?_) (fun z _ => ?_)
  · have z := (n_eq (q := 4) (by omega) (by decide)).mp z
    have ca := o17 (by omega)
    have lp : ∀ (m j d : Nat) (N1 N2 : Nat → Int32) (τ1 τ2 : MS), j ≤ p → (j ≤ i → d = j) → (i < j → d + 1 = j) → LEn 2 N1 N2 → N1 1 = nI v1 → N2 1 = nI v2 → N1 2 = nI i → N1 3 = nI p → N1 4 = nI d → N1 5 = nI j → (∀ j, τ1.1 j = σ1.1 j) → (∀ j, τ2.1 j = σ2.1 j) → (∀ j, j ≠ 51 → τ1.2.2 j = σ1.2.2 j) → (∀ j, j ≠ 51 → τ2.2.2 j = σ2.2.2 j) → AgN (τ1.2.2 51) (τ2.2.2 51) d → Pm m (fun k => x_without k 1 N1 τ1) (fun k => x_without k 1 N2 τ2) (KQ h1 h2 4004) := by
      intro m
      induction m using Nat.strongRecOn with
      | ind m ih =>
      intro j d N1 N2 τ1 τ2 hj hd1 hd2 hN x1 y1 x2 x3 x4 x5 s1 s2 u1 u2 hC
      have y2 : N2 2 = nI i := (hN 2 (by omega)).symm.trans x2
      have y3 : N2 3 = nI p := (hN 3 (by omega)).symm.trans x3
      have y4 : N2 4 = nI d := (hN 4 (by omega)).symm.trans x4
      have y5 : N2 5 = nI j := (hN 5 (by omega)).symm.trans x5
      refine Pm_suc rfl (fun k => by rw [x_without]) (fun k => by rw [x_without]) (fun k1 hk1 => ?_)
      rw [x1, y1, x3, y3, x4, y4, x5, y5]
      refine Pm_ite Iff.rfl (fun y _ => ?_) (fun y _ => ?_)
      · have y := (n_le (by omega) (by omega)).mp y
        have e : d = p - 1 := by omega
        rw [e] at hC
        refine Pm_suc rfl (fun k => by rw [x_without]) (fun k => by rw [x_without]) (fun k2 hk2 => ?_)
        rw [x3, y3, show nI p - 1 = nI (p - 1) from n_sub (p := p) (q := 1) (by omega) (by omega)]
        exact Pm_ob (k_stringOf51 (f1 := 0) (f2 := 0) (w := p - 1) (HS_c hS1 (s1 54) (s1 55) (u1 28 (by decide))) (HS_c hS2 (s2 54) (s2 55) (u2 28 (by decide))) ((s1 56).trans e1) ((s2 56).trans e2) hr1 hr2 (by omega) (fun _ => by omega) (fun _ => by omega) (fun i hi => by rw [Nat.zero_add]; exact hC i hi) rfl rfl rfl rfl) (fun r1 r2 hr => Pm_some hr)
      have hjp : j < p := by
        by_cases e : p ≤ j
        · exact absurd ((n_le (by omega) (by omega)).mpr e) y
        · omega
      have hdj : d ≤ j := by omega
      rw [show nI v1 + 4 = nI (v1 + 4) from n_add (q := 4) (by omega), show nI v2 + 4 = nI (v2 + 4) from n_add (q := 4) (by omega), n_add (p := v1 + 4) (by omega), n_add (p := v2 + 4) (by omega), n_cl (p := v1 + 4 + j) (by omega), n_cl (p := v2 + 4 + j) (by omega), n_cl (p := d) (by omega)]
      refine Pm_chk (fun _ _ => ?_)
      refine Pm_chk (fun _ _ => ?_)
      show Pm k1 (fun k => x_without k 2 N1 (mAr τ1 51 d (τ1.2.2 28 (v1 + 4 + j)))) (fun k => x_without k 2 N2 (mAr τ2 51 d (τ2.2.2 28 (v2 + 4 + j)))) _
      have hC' : AgN ((mAr τ1 51 d (τ1.2.2 28 (v1 + 4 + j))).2.2 51) ((mAr τ2 51 d (τ2.2.2 28 (v2 + 4 + j))).2.2 51) (d + 1) := by
        rw [mAr_s, mAr_s]
        exact AgN_up hC (by rw [u1 28 (by decide), u2 28 (by decide)]; exact (ca j hjp).symm)
      have c4 : ∀ (m' d' : Nat) (M1 M2 : Nat → Int32), m' < k1 → d' ≤ d + 1 → (j + 1 ≤ i → d' = j + 1) → (i < j + 1 → d' + 1 = j + 1) → LEn 2 M1 M2 → M1 1 = nI v1 → M2 1 = nI v2 → M1 2 = nI i → M1 3 = nI p → M1 101 + M1 100 = nI d' → M1 5 = nI j → Pm m' (fun k => x_without k 4 M1 (mAr τ1 51 d (τ1.2.2 28 (v1 + 4 + j)))) (fun k => x_without k 4 M2 (mAr τ2 51 d (τ2.2.2 28 (v2 + 4 + j)))) (KQ h1 h2 4004) := by
        intro m' d' M1 M2 hm' hd' a1 a2 hM z1 w1 z2 z3 z4 z5
        refine Pm_suc rfl (fun k => by rw [x_without]) (fun k => by rw [x_without]) (fun k2 hk2 => ?_)
        exact ih k2 (by omega) (j + 1) d' _ _ _ _ (by omega) a1 a2 (LEn_u (LEn_u hM (by rw [hM 101 (by omega), hM 100 (by omega)])) (by rw [hM 5 (by omega)])) z1 w1 z2 z3 z4 (by show M1 5 + 1 = _; rw [z5, n_add1]) s1 s2 (fun j hj => (mAr_o hj).trans (u1 j hj)) (fun j hj => (mAr_o hj).trans (u2 j hj)) (fun a ha => hC' a (by omega))
      refine Pm_suc rfl (fun k => by rw [x_without]) (fun k => by rw [x_without]) (fun k2 hk2 => ?_)
      rw [x5, y5, x2, y2, x4, y4]
      refine Pm_ite Iff.rfl (fun y _ => ?_) (fun y _ => ?_)
      · have y := (n_eq (by omega) (by omega)).mp y
        exact c4 k2 d _ _ (by omega) (by omega) (by omega) (by omega) (LEn_u (LEn_u hN rfl) rfl) x1 y1 x2 x3 (by show nI d + 0 = _; exact Int32.add_zero _) x5
      · have y : j ≠ i := fun e => y (by rw [e])
        have hM : LEn 2 (upd N1 100 (nI d)) (upd N2 100 (nI d)) := LEn_u hN rfl
        refine Pm_suc rfl (fun k => by rw [x_without]) (fun k => by rw [x_without]) (fun k3 hk3 => ?_)
        exact c4 k3 (d + 1) _ _ (by omega) (by omega) (by omega) (by omega) (LEn_u (LEn_u hM rfl) (hM 100 (by omega))) x1 y1 x2 x3 (by show nI d + 1 = _; rw [n_add1]) x5
    exact lp m1 0 0 _ _ _ _ (Nat.zero_le _) (by omega) (by omega) (LEn_u (LEn_u (LEn_u hL rfl) rfl) rfl) d1 f1 d2 rfl rfl rfl (fun _ => rfl) (fun _ => rfl) (fun _ _ => rfl) (fun _ _ => rfl) (fun i hi => absurd hi (Nat.not_lt_zero i))
  have k5 : 5 ≤ k := by
    by_cases e : k = 4
    · exact absurd (by rw [e]; rfl) z
    · omega
  have ca := o16 k5
  have c11 : ∀ (m2 : Nat) (O1 O2 : Nat → Int32) (r1 r2 : Int32 × MS), O1 100 = r1.1 → O2 100 = r2.1 → KQ h1 h2 4004 r1 r2 → Pm m2 (fun k => x_without k 11 O1 r1.2) (fun k => x_without k 11 O2 r2.2) (KQ h1 h2 4004) := fun m2 O1 O2 r1 r2 u1 u2 hr => by
    refine Pm_suc rfl (fun k => by rw [x_without]) (fun k => by rw [x_without]) (fun m3 _ => ?_)
    rw [u1, u2]
    exact Pm_some hr
  have lp : ∀ (m j w : Nat) (N1 N2 : Nat → Int32) (τ1 τ2 : MS), j ≤ p → w ≤ j → LEn 2 N1 N2 → N1 1 = nI v1 → N2 1 = nI v2 → N1 3 = nI p → N1 4 = nI f → N1 5 = nI j → KPu g1 g2 f w σ1 σ2 τ1 τ2 → Pm m (fun k => x_without k 7 N1 τ1) (fun k => x_without k 7 N2 τ2) (KQ h1 h2 4004) := by
    intro m
    induction m using Nat.strongRecOn with
    | ind m ih =>
    intro j w N1 N2 τ1 τ2 hj hw hN x1 y1 x3 x4 x5 hK
    have y3 : N2 3 = nI p := (hN 3 (by omega)).symm.trans x3
    have y4 : N2 4 = nI f := (hN 4 (by omega)).symm.trans x4
    have y5 : N2 5 = nI j := (hN 5 (by omega)).symm.trans x5
    have a28 : τ1.2.2 28 = σ1.2.2 28 := hK.1.2.1 28 (by decide)
    have b28 : τ2.2.2 28 = σ2.2.2 28 := hK.2.1.2.1 28 (by decide)
    have c8 : ∀ (m' w' : Nat) (ρ1 ρ2 : MS), m' < m → j < p → w' ≤ j + 1 → KPu g1 g2 f w' σ1 σ2 ρ1 ρ2 → Pm m' (fun k => x_without k 8 N1 ρ1) (fun k => x_without k 8 N2 ρ2) (KQ h1 h2 4004) := by
      intro m' w' ρ1 ρ2 hm' hjp hw' hK'
      refine Pm_suc rfl (fun k => by rw [x_without]) (fun k => by rw [x_without]) (fun k2 hk2 => ?_)
      exact ih k2 (by omega) (j + 1) w' _ _ _ _ (by omega) hw' (LEn_u hN (by rw [x5, y5])) x1 y1 x3 x4 (by show N1 5 + 1 = _; rw [x5, n_add1]) hK'
    refine Pm_suc rfl (fun k => by rw [x_without]) (fun k => by rw [x_without]) (fun k1 hk1 => ?_)
    rw [x1, y1, x3, y3, x5, y5, a28, b28, hN 2 (by omega)]
    refine Pm_ite Iff.rfl (fun y _ => ?_) (fun y _ => ?_)
    · refine Pm_suc rfl (fun k => by rw [x_without]) (fun k => by rw [x_without]) (fun k2 hk2 => ?_)
      rw [x1, y1, n_cl (p := v1) (by omega), n_cl (p := v2) (by omega), a28, b28, o9, o10]
      refine Pm_chk (fun _ _ => ?_)
      refine Pm_ite Iff.rfl (fun _ _ => ?_) (fun _ _ => ?_)
      · exact Pm_ob (k_setP hK hS1 hS2 e1 e2 (by omega) (by omega) (by omega) (by omega) (by exact x4) (by exact y4)) (fun r1 r2 hr => c11 k2 _ _ r1 r2 rfl rfl (KQ_mo hr (by omega)))
      · refine Pm_suc rfl (fun k => by rw [x_without]) (fun k => by rw [x_without]) (fun k3 hk3 => ?_)
        exact Pm_ob (k_tupP hK hS1 hS2 e1 e2 (by omega) (by omega) (by omega) (by exact x4) (by exact y4)) (fun r1 r2 hr => c11 k3 _ _ r1 r2 rfl rfl (KQ_mo hr (by omega)))
    have hjp : j < p := by
      by_cases e : p ≤ j
      · exact absurd ((n_le (by omega) (by omega)).mpr e) y
      · omega
    refine Pm_ite Iff.rfl (fun _ _ => c8 k1 w _ _ (by omega) hjp (by omega) hK) (fun _ _ => ?_)
    rw [show nI v1 + 4 = nI (v1 + 4) from n_add (q := 4) (by omega), show nI v2 + 4 = nI (v2 + 4) from n_add (q := 4) (by omega), n_add (p := v1 + 4) (by omega), n_add (p := v2 + 4) (by omega), n_cl (p := v1 + 4 + j) (by omega), n_cl (p := v2 + 4 + j) (by omega)]
    refine Pm_chk (fun _ _ => ?_)
    exact Pm_ob (k_push hK (by omega) (ca j hjp) rfl rfl) (fun r1 r2 hr => c8 k1 (w + 1) _ _ (by omega) hjp (by omega) hr)
  refine Pm_suc rfl (fun k => by rw [x_without]) (fun k => by rw [x_without]) (fun m2 _ => ?_)
  rw [t1, t2]
  exact lp m2 0 0 _ _ _ _ (Nat.zero_le _) (Nat.le_refl _) (LEn_u (LEn_u (LEn_u hL rfl) rfl) rfl) d1 f1 rfl rfl rfl (KPu_0 t1 t2)
end KWO
end JnS181
section JnS182
/-! Two runs side by side (reference): new atoms. -/
section KAT
variable {g : Nat → Prop} {l : List Nat} {B h : Nat} {σ : MS}
theorem u_newAtom {m a : Nat} (hS : HS g l B h σ) (h56 : σ.1 56 = 0) (hr : h + 5 ≤ B + 870000) (ha : a ≤ 1000000) (h95 : σ.1 95 = nI a) (L : Nat → Int32) : Um m (fun k => x_newAtom k 0 L σ) (fun r => (a = 1000000 ∧ r = (0, mEr σ 6)) ∨ (a < 1000000 ∧ NwO h 3 1 1 0 (fun _ => nI (a + 1)) r ∧ r.2.1 95 = nI (a + 1))) := by
  have hb := HS_b hS
  have hB := hS.2.1
  refine Um_suc rfl (fun k => by rw [x_newAtom]) (fun m1 _ => ?_)
  rw [h95]
  refine Um_ite (fun w => ?_) (fun w => ?_)
  · refine Um_ob (Um_t (s_fail _ σ) (fun k => f_fail k _ _ _)) (fun r hr => ?_)
    rw [hr]
    exact Um_some (Or.inl ⟨(n_eq (q := 1000000) (by omega) (by decide)).mp w, rfl⟩)
  have hlt : a < 1000000 := by
    by_cases e : a = 1000000
    · exact absurd (by rw [e]; rfl) w
    · omega
  refine Um_suc rfl (fun k => by rw [x_newAtom]) (fun m2 _ => ?_)
  rw [h95, n_add1]
  show Um m2 (fun k => x_newAtom k 2 L (mSc σ 95 (nI (a + 1)))) _
  have hS1 : HS g l B h (mSc σ 95 (nI (a + 1))) := HS_c hS rfl rfl rfl
  have h56' : (mSc σ 95 (nI (a + 1))).1 56 = 0 := h56
  have q95 : (mSc σ 95 (nI (a + 1))).1 95 = nI (a + 1) := rfl
  generalize mSc σ 95 (nI (a + 1)) = ρ at hS1 h56' q95
  refine Um_suc rfl (fun k => by rw [x_newAtom]) (fun m3 _ => ?_)
  refine Um_ob (u_make hS1 (n := 1) (by omega) (by omega) rfl) (fun r hr => ?_)
  rw [hr]
  refine Um_ite (fun _ => ?_) (fun w => absurd (by rw [mMk_s (by decide), h56']; decide) w)
  have e28 := mMk_28 (σ := ρ) (h := h) (k := (upd (upd (fun _ => 0) 1 3) 2 1 : Nat → Int32) 1) (n := 1)
  have e55 : (mMk ρ h ((upd (upd (fun _ => 0) 1 3) 2 1 : Nat → Int32) 1) 1).1 55 = nI (h + (4 + 1)) := rfl
  have e56 : (mMk ρ h ((upd (upd (fun _ => 0) 1 3) 2 1 : Nat → Int32) 1) 1).1 56 = 0 := (mMk_s (by decide)).trans h56'
  have e95 : (mMk ρ h ((upd (upd (fun _ => 0) 1 3) 2 1 : Nat → Int32) 1) 1).1 95 = nI (a + 1) := (mMk_s (by decide)).trans q95
  generalize mMk ρ h ((upd (upd (fun _ => 0) 1 3) 2 1 : Nat → Int32) 1) 1 = τ at e28 e55 e56 e95
  refine Um_suc rfl (fun k => by rw [x_newAtom]) (fun m4 _ => ?_)
  rw [show upd L 1 (nI h) 1 = nI h from upd_same, show nI h + 4 = nI (h + 4) from n_add (q := 4) (by omega), n_cl (p := h + 4) (by omega), e95]
  refine Um_chk (fun _ => ?_)
  show Um m4 (fun k => x_newAtom k 4 (upd L 1 (nI h)) (mAr τ 28 (h + 4) (nI (a + 1)))) _
  refine Um_suc rfl (fun k => by rw [x_newAtom]) (fun m5 _ => ?_)
  have f28 : (mAr τ 28 (h + 4) (nI (a + 1))).2.2 28 = upd (τ.2.2 28) (h + 4) (nI (a + 1)) := by rw [mAr_s]
  refine Um_some (Or.inr ⟨hlt, ⟨(upd_same : upd L 1 (nI h) 1 = nI h), e55, e56, ?_, ?_, ?_, ?_, fun i hi => ?_⟩, e95⟩)
  · show (mAr τ 28 (h + 4) (nI (a + 1))).2.2 28 h = _
    rw [f28, upd_other (by omega), e28, upd_other (by omega), upd_other (by omega), upd_other (by omega), upd_same]; rfl
  · show (mAr τ 28 (h + 4) (nI (a + 1))).2.2 28 (h + 1) = _
    rw [f28, upd_other (by omega), e28, upd_other (by omega), upd_other (by omega), upd_same]
  · show (mAr τ 28 (h + 4) (nI (a + 1))).2.2 28 (h + 2) = _
    rw [f28, upd_other (by omega), e28, upd_other (by omega), upd_same]; rfl
  · show (mAr τ 28 (h + 4) (nI (a + 1))).2.2 28 (h + 3) = _
    rw [f28, upd_other (by omega), e28, upd_same]; rfl
  · show (mAr τ 28 (h + 4) (nI (a + 1))).2.2 28 (h + 4 + i) = _
    have : i = 0 := by omega
    rw [this, f28, Nat.add_zero, upd_same]
end KAT
section KA2
variable {g1 g2 : Nat → Prop} {l1 l2 : List Nat} {B1 h1 B2 h2 n : Nat} {σ1 σ2 : MS}
theorem k_newAtom {a : Nat} (hS1 : HS g1 l1 B1 h1 σ1) (hS2 : HS g2 l2 B2 h2 σ2) (e1 : σ1.1 56 = 0) (e2 : σ2.1 56 = 0) (hr1 : h1 + 5 ≤ B1 + 870000) (hr2 : h2 + 5 ≤ B2 + 870000) (ha : a ≤ 1000000) (x1 : σ1.1 95 = nI a) (x2 : σ2.1 95 = nI a) (L1 L2 : Nat → Int32) : Pm n (fun k => x_newAtom k 0 L1 σ1) (fun k => x_newAtom k 0 L2 σ2) (fun r1 r2 => KQ h1 h2 5 r1 r2 ∧ r1.2.1 95 = r2.2.1 95) := by
  have hb1 := HS_b hS1
  have hb2 := HS_b hS2
  have y1 := hS1.2.1
  have y2 := hS2.2.1
  refine Pm_mono (Pm_u2 (u_newAtom hS1 e1 hr1 ha x1 L1) (u_newAtom hS2 e2 hr2 ha x2 L2)) (fun r1 r2 hr => ?_)
  rcases hr with ⟨⟨p1, p2⟩ | ⟨p1, p2, p3⟩, ⟨q1, q2⟩ | ⟨q1, q2, q3⟩⟩
  · rw [p2, q2]
    exact ⟨k_er (by decide) hS1 hS2, by show (mEr σ1 6).1 95 = (mEr σ2 6).1 95; rw [mEr_s (by decide), mEr_s (by decide), x1, x2]⟩
  · omega
  · omega
  · exact ⟨NwO_ev (by omega) (by omega) (by omega) (by omega) (by omega) (by omega) (by omega) p2 q2 (fun i hi => rfl), p3.trans q3.symm⟩
end KA2
end JnS182
section JnS183
/-! Two runs side by side (reference): what is put out, names of types. -/
section KPT
variable {g1 g2 : Nat → Prop} {l1 l2 : List Nat} {B1 h1 B2 h2 n : Nat} {σ1 σ2 : MS}
/-- put out alike: so far the same bytes -/
def OtE (τ1 τ2 : MS) : Prop := ∃ w, w ≤ 12000 ∧ τ1.1 93 = nI w ∧ τ2.1 93 = nI w ∧ AgN (τ1.2.2 48) (τ2.2.2 48) w
/-- what putting changes -/
def PtF (σ τ : MS) : Prop := (∀ j, j ≠ 93 → τ.1 j = σ.1 j) ∧ (∀ j, j ≠ 48 → τ.2.2 j = σ.2.2 j)
theorem PtF_rf {σ : MS} : PtF σ σ := ⟨fun _ _ => rfl, fun _ _ => rfl⟩
theorem PtF_tr {σ τ υ : MS} (h : PtF σ τ) (k : PtF τ υ) : PtF σ υ := ⟨fun j hj => (k.1 j hj).trans (h.1 j hj), fun j hj => (k.2 j hj).trans (h.2 j hj)⟩
theorem PtF_HS {g : Nat → Prop} {l : List Nat} {B h : Nat} {σ τ : MS} (hN : PtF σ τ) (hS : HS g l B h σ) : HS g l B h τ := HS_c hS (hN.1 54 (by decide)) (hN.1 55 (by decide)) (hN.2 28 (by decide))
theorem k_put (hO : OtE σ1 σ2) {L1 L2 : Nat → Int32} (hL : L1 1 = L2 1) : Pm n (fun k => x_put k 0 L1 σ1) (fun k => x_put k 0 L2 σ2) (fun r1 r2 => OtE r1.2 r2.2 ∧ PtF σ1 r1.2 ∧ PtF σ2 r2.2) := by
  obtain ⟨w, hw, q1, q2, q3⟩ := hO
  refine Pm_suc rfl (fun k => by rw [x_put]) (fun k => by rw [x_put]) (fun m1 _ => ?_)
  rw [q1, q2]
  refine Pm_chk (fun z _ => ?_)
  have hlt : w < 12000 := by
    by_cases e : w = 12000
    · exact absurd (Or.inr (by rw [e]; decide)) z
    · omega
  rw [n_cl (p := w) (by omega)]
  show Pm m1 (fun k => x_put k 1 L1 (mAr σ1 48 w (L1 1))) (fun k => x_put k 1 L2 (mAr σ2 48 w (L2 1))) _
  refine Pm_suc rfl (fun k => by rw [x_put]) (fun k => by rw [x_put]) (fun m2 _ => ?_)
  rw [show (mAr σ1 48 w (L1 1)).1 93 + 1 = nI (w + 1) by show σ1.1 93 + 1 = _; rw [q1, n_add1], show (mAr σ2 48 w (L2 1)).1 93 + 1 = nI (w + 1) by show σ2.1 93 + 1 = _; rw [q2, n_add1]]
  refine Pm_some ⟨⟨w + 1, by omega, rfl, rfl, ?_⟩, ⟨fun j hj => upd_other hj, fun j hj => mAr_o hj⟩, ⟨fun j hj => upd_other hj, fun j hj => mAr_o hj⟩⟩
  show AgN ((mAr σ1 48 w (L1 1)).2.2 48) ((mAr σ2 48 w (L2 1)).2.2 48) (w + 1)
  rw [mAr_s, mAr_s]
  exact AgN_up q3 hL
theorem k_putWord (hO : OtE σ1 σ2) (h2 : σ1.2.2 2 = σ2.2.2 2) {L1 L2 : Nat → Int32} (hL : LEn 1 L1 L2) : Pm n (fun k => x_putWord k 0 L1 σ1) (fun k => x_putWord k 0 L2 σ2) (fun r1 r2 => OtE r1.2 r2.2 ∧ PtF σ1 r1.2 ∧ PtF σ2 r2.2) := by
  have c4 : ∀ (m : Nat) (N1 N2 : Nat → Int32) (τ1 τ2 : MS), LEn 1 N1 N2 → OtE τ1 τ2 → PtF σ1 τ1 → PtF σ2 τ2 → Pm m (fun k => x_putWord k 4 N1 τ1) (fun k => x_putWord k 4 N2 τ2) (fun r1 r2 => OtE r1.2 r2.2 ∧ PtF σ1 r1.2 ∧ PtF σ2 r2.2) := by
    intro m
    induction m using Nat.strongRecOn with
    | ind m ih =>
    intro N1 N2 τ1 τ2 hN hT p1 p2
    have e2 : τ1.2.2 2 = τ2.2.2 2 := (p1.2 2 (by decide)).trans (h2.trans (p2.2 2 (by decide)).symm)
    refine Pm_suc rfl (fun k => by rw [x_putWord]) (fun k => by rw [x_putWord]) (fun k1 hk1 => ?_)
    rw [hN 2 (by omega), e2]
    refine Pm_chk (fun _ _ => ?_)
    refine Pm_ite Iff.rfl (fun _ _ => ?_) (fun _ _ => ?_)
    · refine Pm_suc rfl (fun k => by rw [x_putWord]) (fun k => by rw [x_putWord]) (fun k2 hk2 => ?_)
      exact Pm_some ⟨hT, p1, p2⟩
    · refine Pm_chk (fun _ _ => ?_)
      exact Pm_ob (k_put hT rfl) (fun r1 r2 hr => ih k1 (by omega) _ _ _ _ (LEn_u hN rfl) hr.1 (PtF_tr p1 hr.2.1) (PtF_tr p2 hr.2.2))
  have c1 : ∀ (m : Nat) (N1 N2 : Nat → Int32), LEn 1 N1 N2 → Pm m (fun k => x_putWord k 1 N1 σ1) (fun k => x_putWord k 1 N2 σ2) (fun r1 r2 => OtE r1.2 r2.2 ∧ PtF σ1 r1.2 ∧ PtF σ2 r2.2) := by
    intro m
    induction m using Nat.strongRecOn with
    | ind m ih =>
    intro N1 N2 hN
    have c3 : ∀ (m' : Nat) (M1 M2 : Nat → Int32), m' < m → LEn 1 M1 M2 → Pm m' (fun k => x_putWord k 3 M1 σ1) (fun k => x_putWord k 3 M2 σ2) (fun r1 r2 => OtE r1.2 r2.2 ∧ PtF σ1 r1.2 ∧ PtF σ2 r2.2) := fun m' M1 M2 hm' hM => by
      refine Pm_suc rfl (fun k => by rw [x_putWord]) (fun k => by rw [x_putWord]) (fun k2 hk2 => ?_)
      exact ih k2 (by omega) _ _ (LEn_u (LEn_u hM (by rw [hM 101 (by omega), hM 100 (by omega)])) (by rw [hM 2 (by omega)]))
    refine Pm_suc rfl (fun k => by rw [x_putWord]) (fun k => by rw [x_putWord]) (fun k1 hk1 => ?_)
    rw [hN 2 (by omega), hN 1 (by omega), hN 3 (by omega), h2]
    refine Pm_ite Iff.rfl (fun _ _ => c4 k1 _ _ _ _ hN hO PtF_rf PtF_rf) (fun _ _ => ?_)
    refine Pm_chk (fun _ _ => ?_)
    refine Pm_ite Iff.rfl (fun _ _ => c3 k1 _ _ (by omega) (LEn_u (LEn_u hN rfl) rfl)) (fun _ _ => ?_)
    have hM : LEn 1 (upd N1 100 (N2 3)) (upd N2 100 (N2 3)) := LEn_u hN rfl
    refine Pm_suc rfl (fun k => by rw [x_putWord]) (fun k => by rw [x_putWord]) (fun k2 hk2 => ?_)
    exact c3 k2 _ _ (by omega) (LEn_u (LEn_u hM rfl) (hM 100 (by omega)))
  refine Pm_suc rfl (fun k => by rw [x_putWord]) (fun k => by rw [x_putWord]) (fun m1 _ => ?_)
  exact c1 m1 _ _ (LEn_u (LEn_u hL rfl) rfl)
theorem k_typeOf {v1 v2 : Nat} (hS1 : HS g1 l1 B1 h1 σ1) (hS2 : HS g2 l2 B2 h2 σ2) (e1 : σ1.1 56 = 0) (e2 : σ2.1 56 = 0) (hr1 : h1 + 4004 ≤ B1 + 870000) (hr2 : h2 + 4004 ≤ B2 + 870000) (hv1 : v1 < 3 ∨ g1 v1) (hv2 : v2 < 3 ∨ g2 v2) (hv : EVb (σ1.2.2 28) (σ2.2.2 28) v1 v2) (hT : σ1.2.2 2 = σ2.2.2 2) {L1 L2 : Nat → Int32} (d1 : L1 1 = nI v1) (f1 : L2 1 = nI v2) : Pm n (fun k => x_typeOf k 0 L1 σ1) (fun k => x_typeOf k 0 L2 σ2) (KQ h1 h2 4004) := by
  refine Pm_suc rfl (fun k => by rw [x_typeOf]) (fun k => by rw [x_typeOf]) (fun m1 _ => ?_)
  show Pm m1 (fun k => x_typeOf k 1 L1 (mSc σ1 93 0)) (fun k => x_typeOf k 1 L2 (mSc σ2 93 0)) _
  have hO : OtE (mSc σ1 93 0) (mSc σ2 93 0) := ⟨0, by omega, rfl, rfl, fun i hi => absurd hi (Nat.not_lt_zero i)⟩
  have hT1 : HS g1 l1 B1 h1 (mSc σ1 93 0) := HS_c hS1 rfl rfl rfl
  have hT2 : HS g2 l2 B2 h2 (mSc σ2 93 0) := HS_c hS2 rfl rfl rfl
  have e1' : (mSc σ1 93 0).1 56 = 0 := e1
  have e2' : (mSc σ2 93 0).1 56 = 0 := e2
  have hv' : EVb ((mSc σ1 93 0).2.2 28) ((mSc σ2 93 0).2.2 28) v1 v2 := hv
  have hT' : (mSc σ1 93 0).2.2 2 = (mSc σ2 93 0).2.2 2 := hT
  generalize mSc σ1 93 0 = ρ1 at hO hT1 e1' hv' hT'
  generalize mSc σ2 93 0 = ρ2 at hO hT2 e2' hv' hT'
  refine Pm_suc rfl (fun k => by rw [x_typeOf]) (fun k => by rw [x_typeOf]) (fun m2 _ => ?_)
  refine Pm_ob (Pm_t2 (s_kind hT1 hv1 (by exact d1)) (fun k => f_kind k _ _ _) (s_kind hT2 hv2 (by exact f1)) (fun k => f_kind k _ _ _)) (fun r1 r2 hr => ?_)
  rw [hr.1, hr.2, (EVb_sz hv').2.2]
  refine Pm_ob (k_putWord hO hT' (fun i hi => rfl)) (fun s1 s2 hs => ?_)
  obtain ⟨⟨w, w1, w2, w3, w4⟩, p1, p2⟩ := hs
  rw [w2, w3]
  exact Pm_ob (k_stringOf48 (f1 := 0) (f2 := 0) (w := w) (PtF_HS p1 hT1) (PtF_HS p2 hT2) ((p1.1 56 (by decide)).trans e1') ((p2.1 56 (by decide)).trans e2') hr1 hr2 (by omega) (fun _ => by omega) (fun _ => by omega) (fun i hi => by rw [Nat.zero_add]; exact w4 i hi) rfl rfl rfl rfl) (fun r1 r2 hr => Pm_some hr)
end KPT
end JnS183
section JnS184
/-! Two runs side by side (reference): wholes are printed. -/
section KPW
variable {g1 g2 : Nat → Prop} {l1 l2 : List Nat} {B1 h1 B2 h2 n : Nat} {σ1 σ2 : MS}
theorem Pm_chk0 {Q : Int32 × MS → Int32 × MS → Prop} {c1 c2 : Prop} {d1 : Decidable c1} {d2 : Decidable c2} {a1 a2 : Nat → Option (Int32 × MS)} (t : ¬ c1 → ¬ c2 → Pm n a1 a2 Q) : Pm n (fun k => if c1 then none else a1 k) (fun k => if c2 then none else a2 k) Q := by
  intro k hk r1 r2 e1 e2
  have e1 : (if c1 then none else a1 k) = some r1 := e1
  have e2 : (if c2 then none else a2 k) = some r2 := e2
  by_cases h : c1
  · rw [if_pos h] at e1; cases e1
  · by_cases h' : c2
    · rw [if_pos h'] at e2; cases e2
    · rw [if_neg h] at e1
      rw [if_neg h'] at e2
      exact t h h' k hk r1 r2 e1 e2
theorem PtF_Pr {σ τ : MS} (h : PtF σ τ) : PrF σ τ := ⟨fun j hj => h.1 j (by omega), fun j hj => h.2 j (by omega)⟩
theorem OtE_c {τ1 τ2 υ1 υ2 : MS} (h : OtE τ1 τ2) (a1 : υ1.1 93 = τ1.1 93) (a2 : υ2.1 93 = τ2.1 93) (b1 : υ1.2.2 48 = τ1.2.2 48) (b2 : υ2.2.2 48 = τ2.2.2 48) : OtE υ1 υ2 := by
  obtain ⟨w, w1, w2, w3, w4⟩ := h
  exact ⟨w, w1, a1.trans w2, a2.trans w3, by rw [b1, b2]; exact w4⟩
/-- printing: put out alike, and what it changes -/
def PQ (σ1 σ2 : MS) (r1 r2 : Int32 × MS) : Prop := OtE r1.2 r2.2 ∧ PrF σ1 r1.2 ∧ PrF σ2 r2.2
theorem WhE_Pr {τ1 τ2 : MS} {a1 a2 p : Nat} (n1 : PrF σ1 τ1) (n2 : PrF σ2 τ2) (h : WhE σ1 σ2 a1 a2 p) : WhE τ1 τ2 a1 a2 p := by
  unfold WhE Wh at h ⊢
  rw [n1.2 28 (by decide), n2.2 28 (by decide)]
  exact h
def PWs (σ1 σ2 : MS) (a d : Nat) (τ1 τ2 : MS) : Prop := a ≤ 64 ∧ d ≤ 400 ∧ OtE τ1 τ2 ∧ PrF σ1 τ1 ∧ PrF σ2 τ2 ∧ τ1.1 84 = nI a ∧ τ2.1 84 = nI a ∧ AgN (τ1.2.2 42) (τ2.2.2 42) a ∧ AgN (τ1.2.2 49) (τ2.2.2 49) d
def PWl (a1 a2 d : Nat) (N1 N2 : Nat → Int32) : Prop := LEn 2 N1 N2 ∧ N1 1 = nI a1 ∧ N2 1 = nI a2 ∧ N2 2 = nI d
theorem PWl_u {a1 a2 d j : Nat} {N1 N2 : Nat → Int32} {x y : Int32} (hj : 3 ≤ j) (h : PWl a1 a2 d N1 N2) (e : x = y) : PWl a1 a2 d (upd N1 j x) (upd N2 j y) := ⟨LEn_u h.1 e, (upd_other (by omega)).trans h.2.1, (upd_other (by omega)).trans h.2.2.1, (upd_other (by omega)).trans h.2.2.2⟩
theorem k_pw11 : ∀ (m i d : Nat) (N1 N2 : Nat → Int32) (τ1 τ2 : MS), i ≤ d → d ≤ 400 → N1 3 = nI i - 1 → N2 3 = nI i - 1 → OtE τ1 τ2 → PrF σ1 τ1 → PrF σ2 τ2 → AgN (τ1.2.2 49) (τ2.2.2 49) d → Pm m (fun k => x_putWhole k 11 N1 τ1) (fun k => x_putWhole k 11 N2 τ2) (PQ σ1 σ2) := by
  intro m
  induction m using Nat.strongRecOn with
  | ind m ih =>
  intro i d N1 N2 τ1 τ2 hi hd n1 n2 hO p1 p2 hA
  refine Pm_suc rfl (fun k => by rw [x_putWhole]) (fun k => by rw [x_putWhole]) (fun m1 hm1 => ?_)
  rw [n1, n2]
  refine Pm_ite Iff.rfl (fun _ _ => ?_) (fun z _ => ?_)
  · refine Pm_suc rfl (fun k => by rw [x_putWhole]) (fun k => by rw [x_putWhole]) (fun m2 hm2 => ?_)
    exact Pm_some ⟨hO, p1, p2⟩
  · cases i with
    | zero => exact absurd (show nI 0 - 1 < 0 by decide) z
    | succ i =>
      rw [show nI (i + 1) - 1 = nI i from n_sub (p := i + 1) (q := 1) (by omega) (by omega)]
      refine Pm_chk (fun _ _ => ?_)
      rw [n_cl (p := i) (by omega), hA i (by omega)]
      refine Pm_ob (k_put hO rfl) (fun r1 r2 hr => ?_)
      exact ih m1 (by omega) i d _ _ r1.2 r2.2 (by omega) hd (by show nI i + (-1) = nI i - 1; exact (Int32.sub_eq_add_neg _ _).symm) (by show nI i + (-1) = nI i - 1; exact (Int32.sub_eq_add_neg _ _).symm) hr.1 (PrF_tr p1 (PtF_Pr hr.2.1)) (PrF_tr p2 (PtF_Pr hr.2.2)) (by rw [hr.2.1.2 49 (by decide), hr.2.2.2 49 (by decide)]; exact hA)
theorem k_pw9 {a1 a2 p a d m : Nat} {N1 N2 : Nat → Int32} {τ1 τ2 : MS} (hS1 : HS g1 l1 B1 h1 σ1) (hS2 : HS g2 l2 B2 h2 σ2) (hW : WhE σ1 σ2 a1 a2 p) (hN : PWl a1 a2 d N1 N2) (hT : PWs σ1 σ2 a d τ1 τ2) : Pm m (fun k => x_putWhole k 9 N1 τ1) (fun k => x_putWhole k 9 N2 τ2) (PQ σ1 σ2) := by
  obtain ⟨ha, hd, hO, p1, p2, t1, t2, hA, hD⟩ := hT
  have c10 : ∀ (m : Nat) (υ1 υ2 : MS), OtE υ1 υ2 → PrF σ1 υ1 → PrF σ2 υ2 → AgN (υ1.2.2 49) (υ2.2.2 49) d → Pm m (fun k => x_putWhole k 10 N1 υ1) (fun k => x_putWhole k 10 N2 υ2) (PQ σ1 σ2) := fun m υ1 υ2 hO p1 p2 hD => by
    refine Pm_suc rfl (fun k => by rw [x_putWhole]) (fun k => by rw [x_putWhole]) (fun m1 hm1 => ?_)
    rw [hN.1 2 (by omega), hN.2.2.2]
    exact k_pw11 m1 d d _ _ υ1 υ2 (Nat.le_refl _) hd rfl rfl hO p1 p2 hD
  refine Pm_suc rfl (fun k => by rw [x_putWhole]) (fun k => by rw [x_putWhole]) (fun m1 hm1 => ?_)
  refine Pm_ob (k_signOf (PrF_HS p1 hS1) (PrF_HS p2 hS2) (WhE_Pr p1 p2 hW) (by exact hN.2.1) (by exact hN.2.2.1)) (fun r1 r2 hr => ?_)
  rw [hr.1, hr.2]
  refine Pm_ite Iff.rfl (fun _ _ => c10 m1 τ1 τ2 hO p1 p2 hD) (fun _ _ => ?_)
  refine Pm_ob (k_put hO rfl) (fun s1 s2 hs => ?_)
  exact c10 m1 s1.2 s2.2 hs.1 (PrF_tr p1 (PtF_Pr hs.2.1)) (PrF_tr p2 (PtF_Pr hs.2.2)) (by rw [hs.2.1.2 49 (by decide), hs.2.2.2 49 (by decide)]; exact hD)
theorem k_pw2 {a1 a2 p : Nat} (hS1 : HS g1 l1 B1 h1 σ1) (hS2 : HS g2 l2 B2 h2 σ2) (hW : WhE σ1 σ2 a1 a2 p) : ∀ (m a d : Nat) (N1 N2 : Nat → Int32) (τ1 τ2 : MS), PWl a1 a2 d N1 N2 → PWs σ1 σ2 a d τ1 τ2 → Pm m (fun k => x_putWhole k 2 N1 τ1) (fun k => x_putWhole k 2 N2 τ2) (PQ σ1 σ2) := by
  intro m
  induction m using Nat.strongRecOn with
  | ind m ih =>
  intro a d N1 N2 τ1 τ2 hN hT
  -- noughts at the top go
  have c7 : ∀ (m' : Nat), m' < m → ∀ (b d : Nat) (M1 M2 : Nat → Int32) (υ1 υ2 : MS), PWl a1 a2 d M1 M2 → PWs σ1 σ2 b d υ1 υ2 → Pm m' (fun k => x_putWhole k 7 M1 υ1) (fun k => x_putWhole k 7 M2 υ2) (PQ σ1 σ2) := by
    intro m'
    induction m' using Nat.strongRecOn with
    | ind m' ih7 =>
    intro hm' b d M1 M2 υ1 υ2 hM hU
    have c8 : ∀ m'', m'' < m' → Pm m'' (fun k => x_putWhole k 8 M1 υ1) (fun k => x_putWhole k 8 M2 υ2) (PQ σ1 σ2) := fun m'' h => by
      refine Pm_suc rfl (fun k => by rw [x_putWhole]) (fun k => by rw [x_putWhole]) (fun m2 hm2 => ?_)
      exact ih m2 (by omega) b d M1 M2 υ1 υ2 hM hU
    obtain ⟨hb, hd, hO, p1, p2, t1, t2, hA, hD⟩ := hU
    refine Pm_suc rfl (fun k => by rw [x_putWhole]) (fun k => by rw [x_putWhole]) (fun m1 hm1 => ?_)
    rw [t1, t2]
    refine Pm_ite Iff.rfl (fun _ _ => c8 m1 (by omega)) (fun z _ => ?_)
    cases b with
    | zero => exact absurd ((n_le0 (by decide)).mpr rfl) z
    | succ b =>
      rw [show nI (b + 1) - 1 = nI b from n_sub (p := b + 1) (q := 1) (by omega) (by omega)]
      refine Pm_chk (fun _ _ => ?_)
      rw [n_cl (p := b) (by omega), hA b (by omega)]
      refine Pm_ite Iff.rfl (fun _ _ => ?_) (fun _ _ => c8 m1 (by omega))
      exact ih7 m1 (by omega) (by omega) b d M1 M2 (mSc υ1 84 (nI b)) (mSc υ2 84 (nI b)) hM ⟨by omega, hd, OtE_c hO rfl rfl rfl rfl, PrF_tr p1 (PrF_sc (Or.inl rfl)), PrF_tr p2 (PrF_sc (Or.inl rfl)), rfl, rfl, AgN_mo hA (by omega), hD⟩
  -- by ten
  have c3 : ∀ (m' : Nat), m' < m → ∀ (k : Nat) (M1 M2 : Nat → Int32) (υ1 υ2 : MS), k ≤ a → M2 4 = nI k - 1 → PWl a1 a2 d M1 M2 → PWs σ1 σ2 a d υ1 υ2 → Pm m' (fun k => x_putWhole k 3 M1 υ1) (fun k => x_putWhole k 3 M2 υ2) (PQ σ1 σ2) := by
    intro m'
    induction m' using Nat.strongRecOn with
    | ind m' ih3 =>
    intro hm' k M1 M2 υ1 υ2 hk q4 hM hU
    obtain ⟨hb, hd, hO, p1, p2, t1, t2, hA, hD⟩ := hU
    refine Pm_suc rfl (fun k => by rw [x_putWhole]) (fun k => by rw [x_putWhole]) (fun m1 hm1 => ?_)
    rw [hM.1 4 (by omega), hM.1 3 (by omega), q4]
    refine Pm_ite Iff.rfl (fun _ _ => ?_) (fun z _ => ?_)
    · refine Pm_suc rfl (fun k => by rw [x_putWhole]) (fun k => by rw [x_putWhole]) (fun m2 hm2 => ?_)
      rw [hM.1 2 (by omega), hM.1 3 (by omega), hM.2.2.2]
      refine Pm_chk (fun z _ => ?_)
      have hlt : d < 400 := by
        by_cases c : d < 400
        · exact c
        · exact absurd (Or.inr (by rw [n_cl (p := d) (by omega)]; omega)) z
      rw [n_cl (p := d) (by omega)]
      show Pm m2 (fun k => x_putWhole k 6 M1 (mAr υ1 49 d (M2 3))) (fun k => x_putWhole k 6 M2 (mAr υ2 49 d (M2 3))) _
      refine Pm_suc rfl (fun k => by rw [x_putWhole]) (fun k => by rw [x_putWhole]) (fun m3 hm3 => ?_)
      rw [hM.1 2 (by omega), hM.2.2.2, n_add1]
      refine c7 m3 (by omega) a (d + 1) _ _ _ _ ⟨LEn_u hM.1 rfl, hM.2.1, hM.2.2.1, rfl⟩ ⟨hb, by omega, OtE_c hO rfl rfl (mAr_o (by decide)) (mAr_o (by decide)), PrF_tr p1 (PrF_ar (Or.inr (Or.inr rfl))), PrF_tr p2 (PrF_ar (Or.inr (Or.inr rfl))), t1, t2, ?_, ?_⟩
      · rw [mAr_o (by decide), mAr_o (by decide)]; exact hA
      · rw [mAr_s, mAr_s]; exact AgN_up hD rfl
    · cases k with
      | zero => exact absurd (show nI 0 - 1 < 0 by decide) z
      | succ k =>
        rw [show nI (k + 1) - 1 = nI k from n_sub (p := k + 1) (q := 1) (by omega) (by omega)]
        refine Pm_chk (fun _ _ => ?_)
        refine Pm_chk0 (fun _ _ => ?_)
        refine Pm_chk (fun _ _ => ?_)
        rw [n_cl (p := k) (by omega), hA k (by omega)]
        generalize (M2 3 <<< ((16 : Int32) &&& 31)) ||| υ2.2.2 42 k = x
        show Pm m1 (fun f => x_putWhole f 4 (upd M1 5 x) (mAr υ1 42 k (x / 10))) (fun f => x_putWhole f 4 (upd M2 5 x) (mAr υ2 42 k (x / 10))) _
        refine Pm_suc rfl (fun k => by rw [x_putWhole]) (fun k => by rw [x_putWhole]) (fun m2 hm2 => ?_)
        refine Pm_chk0 (fun _ _ => ?_)
        have hM5 : PWl a1 a2 d (upd M1 5 x) (upd M2 5 x) := PWl_u (by omega) hM rfl
        have q4' : upd M2 5 x 4 = nI (k + 1) - 1 := q4
        rw [show nI (k + 1) - 1 = nI k from n_sub (p := k + 1) (q := 1) (by omega) (by omega)] at q4'
        generalize upd M1 5 x = O1 at hM5
        generalize upd M2 5 x = O2 at hM5 q4'
        refine ih3 m2 (by omega) (by omega) k _ _ _ _ (by omega) ?_ (PWl_u (by omega) (PWl_u (by omega) hM5 (by rw [hM5.1 5 (by omega)])) (by rw [hM5.1 4 (by omega)])) ⟨hb, hd, OtE_c hO rfl rfl (mAr_o (by decide)) (mAr_o (by decide)), PrF_tr p1 (PrF_ar (Or.inl rfl)), PrF_tr p2 (PrF_ar (Or.inl rfl)), t1, t2, ?_, ?_⟩
        · show O2 4 + (-1) = nI k - 1
          rw [q4']
          exact (Int32.sub_eq_add_neg _ _).symm
        · rw [mAr_s, mAr_s]; exact AgN_st hA rfl
        · rw [mAr_o (by decide), mAr_o (by decide)]; exact hD
  have hT' := hT
  obtain ⟨ha, hd, hO, p1, p2, t1, t2, hA, hD⟩ := hT
  refine Pm_suc rfl (fun k => by rw [x_putWhole]) (fun k => by rw [x_putWhole]) (fun m1 hm1 => ?_)
  rw [t1, t2]
  refine Pm_ite Iff.rfl (fun _ _ => k_pw9 hS1 hS2 hW hN hT') (fun _ _ => ?_)
  exact c3 m1 (by omega) a _ _ τ1 τ2 (Nat.le_refl _) rfl (PWl_u (by omega) (PWl_u (by omega) hN rfl) rfl) hT'
theorem k_putWhole {a1 a2 p : Nat} (hS1 : HS g1 l1 B1 h1 σ1) (hS2 : HS g2 l2 B2 h2 σ2) (hW : WhE σ1 σ2 a1 a2 p) (hO : OtE σ1 σ2) {L1 L2 : Nat → Int32} (d1 : L1 1 = nI a1) (d2 : L2 1 = nI a2) (hL : LEn 2 L1 L2) : Pm n (fun k => x_putWhole k 0 L1 σ1) (fun k => x_putWhole k 0 L2 σ2) (PQ σ1 σ2) := by
  refine Pm_suc rfl (fun k => by rw [x_putWhole]) (fun k => by rw [x_putWhole]) (fun m1 hm1 => ?_)
  refine Pm_ob (Pm_un (s_loadA hS1 hW.1.1 hW.1.2.1 hW.1.2.2.1 hW.1.2.2.2.1 hW.1.2.2.2.2 (by exact d1)) (fun k => f_loadA k _ _ _) (s_loadA hS2 hW.2.1.1 hW.2.1.2.1 hW.2.1.2.2.1 hW.2.1.2.2.2.1 hW.2.1.2.2.2.2 (by exact d2)) (fun k => f_loadA k _ _ _) (k_loadA hS1 hS2 hW (by exact d1) (by exact d2))) (fun r1 r2 hr => ?_)
  obtain ⟨⟨_, _, q1, q2, qA⟩, ⟨_, _, _, u43, u85⟩, ⟨_, _, _, v43, v85⟩⟩ := hr
  have f1 : PrF σ1 r1.2 := ⟨fun j hj => u85 j (by omega), fun j hj => u43 j (by omega)⟩
  have f2 : PrF σ2 r2.2 := ⟨fun j hj => v85 j (by omega), fun j hj => v43 j (by omega)⟩
  have hO' : OtE r1.2 r2.2 := OtE_c hO (u85 93 (by decide)) (v85 93 (by decide)) (u43 48 (by decide)) (v43 48 (by decide))
  have hp := hW.1.2.2.1
  rw [q1, q2]
  refine Pm_ite Iff.rfl (fun _ _ => ?_) (fun _ _ => ?_)
  · refine Pm_chk (fun _ _ => ?_)
    show Pm m1 (fun k => x_putWhole k 1 (upd L1 2 0) (mAr r1.2 49 (0 : Int32).toNatClampNeg 0)) (fun k => x_putWhole k 1 (upd L2 2 0) (mAr r2.2 49 (0 : Int32).toNatClampNeg 0)) _
    refine Pm_suc rfl (fun k => by rw [x_putWhole]) (fun k => by rw [x_putWhole]) (fun m2 hm2 => ?_)
    refine k_pw2 hS1 hS2 hW m2 (p - 1) 1 _ _ _ _ ⟨LEn_u (LEn_u hL rfl) rfl, d1, d2, rfl⟩ ⟨by omega, by omega, OtE_c hO' rfl rfl (mAr_o (by decide)) (mAr_o (by decide)), PrF_tr f1 (PrF_ar (Or.inr (Or.inr rfl))), PrF_tr f2 (PrF_ar (Or.inr (Or.inr rfl))), q1, q2, ?_, ?_⟩
    · rw [mAr_o (by decide), mAr_o (by decide)]; exact qA
    · rw [mAr_s, mAr_s]
      intro i hi
      rw [show i = (0 : Int32).toNatClampNeg by have : (0 : Int32).toNatClampNeg = 0 := by decide
                                                omega, upd_same, upd_same]
  · exact k_pw2 hS1 hS2 hW m1 (p - 1) 0 _ _ _ _ ⟨LEn_u hL rfl, d1, d2, rfl⟩ ⟨by omega, by omega, hO', f1, f2, q1, q2, qA, fun i hi => absurd hi (Nat.not_lt_zero i)⟩
end KPW
end JnS184
section JnS185
/-! Two runs side by side (reference): values are printed. -/
section KPR
variable {g1 g2 : Nat → Prop} {l1 l2 : List Nat} {B1 h1 B2 h2 n : Nat} {σ1 σ2 : MS}
theorem Pm_odd {d : Nat} {Q : Int32 × MS → Int32 × MS → Prop} {f1 f2 : Nat → Nat → Option (Int32 × MS)} (t : ∀ e, d = e + 1 → Pm n (fun k => f1 k e) (fun k => f2 k e) Q) : Pm n (fun k => od d (fun e => f1 k e)) (fun k => od d (fun e => f2 k e)) Q := by
  cases d with
  | zero => intro k hk r1 r2 e1 e2; cases e1
  | succ e => exact t e rfl
theorem PQ_tr {τ1 τ2 : MS} {r1 r2 : Int32 × MS} (p1 : PrF σ1 τ1) (p2 : PrF σ2 τ2) (h : PQ τ1 τ2 r1 r2) : PQ σ1 σ2 r1 r2 := ⟨h.1, PrF_tr p1 h.2.1, PrF_tr p2 h.2.2⟩
theorem k_putP {τ1 τ2 : MS} (p1 : PrF σ1 τ1) (p2 : PrF σ2 τ2) (hO : OtE τ1 τ2) {L1 L2 : Nat → Int32} (hL : L1 1 = L2 1) : Pm n (fun k => x_put k 0 L1 τ1) (fun k => x_put k 0 L2 τ2) (PQ σ1 σ2) := Pm_mono (k_put hO hL) (fun r1 r2 hr => ⟨hr.1, PrF_tr p1 (PtF_Pr hr.2.1), PrF_tr p2 (PtF_Pr hr.2.2)⟩)
theorem k_ptr : ∀ (m b : Nat) (N1 N2 : Nat → Int32) (τ1 τ2 : MS), LEn 1 N1 N2 → OtE τ1 τ2 → PrF σ1 τ1 → PrF σ2 τ2 → Pm m (fun k => x_putTruth k b N1 τ1) (fun k => x_putTruth k b N2 τ2) (PQ σ1 σ2) := by
  intro m
  induction m using Nat.strongRecOn with
  | ind m ih =>
  intro b N1 N2 τ1 τ2 hN hO p1 p2
  have e1 := hN 1 (by omega)
  have e100 := hN 100 (by omega)
  match b with
  | 0 =>
    refine Pm_suc rfl (fun k => by rw [x_putTruth]) (fun k => by rw [x_putTruth]) (fun m1 hm1 => ?_)
    rw [e1]
    exact Pm_ite Iff.rfl (fun _ _ => ih m1 (by omega) 1 _ _ _ _ hN hO p1 p2) (fun _ _ => ih m1 (by omega) 2 _ _ _ _ (LEn_u hN rfl) hO p1 p2)
  | 1 =>
    refine Pm_suc rfl (fun k => by rw [x_putTruth]) (fun k => by rw [x_putTruth]) (fun m1 hm1 => ?_)
    exact ih m1 (by omega) 2 _ _ _ _ (LEn_u hN rfl) hO p1 p2
  | 2 =>
    refine Pm_suc rfl (fun k => by rw [x_putTruth]) (fun k => by rw [x_putTruth]) (fun m1 hm1 => ?_)
    rw [e1, e100]
    refine Pm_ob (k_putP p1 p2 hO rfl) (fun r1 r2 hr => ?_)
    exact Pm_ite Iff.rfl (fun _ _ => ih m1 (by omega) 3 _ _ _ _ hN hr.1 hr.2.1 hr.2.2) (fun _ _ => ih m1 (by omega) 4 _ _ _ _ (LEn_u hN rfl) hr.1 hr.2.1 hr.2.2)
  | 3 =>
    refine Pm_suc rfl (fun k => by rw [x_putTruth]) (fun k => by rw [x_putTruth]) (fun m1 hm1 => ?_)
    exact ih m1 (by omega) 4 _ _ _ _ (LEn_u hN rfl) hO p1 p2
  | 4 =>
    refine Pm_suc rfl (fun k => by rw [x_putTruth]) (fun k => by rw [x_putTruth]) (fun m1 hm1 => ?_)
    rw [e1, e100]
    refine Pm_ob (k_putP p1 p2 hO rfl) (fun r1 r2 hr => ?_)
    exact Pm_ite Iff.rfl (fun _ _ => ih m1 (by omega) 5 _ _ _ _ hN hr.1 hr.2.1 hr.2.2) (fun _ _ => ih m1 (by omega) 6 _ _ _ _ (LEn_u hN rfl) hr.1 hr.2.1 hr.2.2)
  | 5 =>
    refine Pm_suc rfl (fun k => by rw [x_putTruth]) (fun k => by rw [x_putTruth]) (fun m1 hm1 => ?_)
    exact ih m1 (by omega) 6 _ _ _ _ (LEn_u hN rfl) hO p1 p2
  | 6 =>
    refine Pm_suc rfl (fun k => by rw [x_putTruth]) (fun k => by rw [x_putTruth]) (fun m1 hm1 => ?_)
    rw [e1, e100]
    refine Pm_ob (k_putP p1 p2 hO rfl) (fun r1 r2 hr => ?_)
    exact Pm_ite Iff.rfl (fun _ _ => ih m1 (by omega) 7 _ _ _ _ hN hr.1 hr.2.1 hr.2.2) (fun _ _ => ih m1 (by omega) 8 _ _ _ _ (LEn_u hN rfl) hr.1 hr.2.1 hr.2.2)
  | 7 =>
    refine Pm_suc rfl (fun k => by rw [x_putTruth]) (fun k => by rw [x_putTruth]) (fun m1 hm1 => ?_)
    exact ih m1 (by omega) 8 _ _ _ _ (LEn_u hN rfl) hO p1 p2
  | 8 =>
    refine Pm_suc rfl (fun k => by rw [x_putTruth]) (fun k => by rw [x_putTruth]) (fun m1 hm1 => ?_)
    rw [e1, e100]
    refine Pm_ob (k_putP p1 p2 hO rfl) (fun r1 r2 hr => ?_)
    refine Pm_ite Iff.rfl (fun _ _ => ?_) (fun _ _ => ih m1 (by omega) 9 _ _ _ _ hN hr.1 hr.2.1 hr.2.2)
    exact Pm_ob (k_putP hr.2.1 hr.2.2 hr.1 rfl) (fun s1 s2 hs => ih m1 (by omega) 9 _ _ _ _ hN hs.1 hs.2.1 hs.2.2)
  | 9 =>
    refine Pm_suc rfl (fun k => by rw [x_putTruth]) (fun k => by rw [x_putTruth]) (fun m1 hm1 => ?_)
    exact Pm_some ⟨hO, p1, p2⟩
  | b + 10 =>
    intro k hk r1 r2 a1 a2
    cases k with
    | zero => cases a1
    | succ k => cases a1
theorem k_pnm : ∀ (m d : Nat) (N1 N2 : Nat → Int32) (τ1 τ2 : MS), LEn 1 N1 N2 → OtE τ1 τ2 → PrF σ1 τ1 → PrF σ2 τ2 → Pm m (fun k => x_GN k d 0 0 N1 τ1) (fun k => x_GN k d 0 0 N2 τ2) (PQ σ1 σ2) := by
  intro m
  induction m using Nat.strongRecOn with
  | ind m ih =>
  intro d N1 N2 τ1 τ2 hN hO p1 p2
  have e1 := hN 1 (by omega)
  have c1 : ∀ (m : Nat) (υ1 υ2 : MS), OtE υ1 υ2 → PrF σ1 υ1 → PrF σ2 υ2 → Pm m (fun k => x_GN k d 0 1 N1 υ1) (fun k => x_GN k d 0 1 N2 υ2) (PQ σ1 σ2) := fun m υ1 υ2 hO p1 p2 => by
    refine Pm_suc rfl (fun k => e_putNumber_1 k _ _ _) (fun k => e_putNumber_1 k _ _ _) (fun m1 hm1 => ?_)
    refine Pm_chk0 (fun _ _ => ?_)
    rw [e1]
    exact Pm_ob (k_putP p1 p2 hO rfl) (fun r1 r2 hr => Pm_some hr)
  refine Pm_suc rfl (fun k => e_putNumber_0 k _ _ _) (fun k => e_putNumber_0 k _ _ _) (fun m1 hm1 => ?_)
  rw [e1]
  refine Pm_ite Iff.rfl (fun _ _ => c1 m1 τ1 τ2 hO p1 p2) (fun _ _ => ?_)
  refine Pm_chk0 (fun _ _ => ?_)
  refine Pm_odd (fun e he => ?_)
  exact Pm_ob (ih m1 (by omega) e _ _ τ1 τ2 (fun i hi => rfl) hO p1 p2) (fun r1 r2 hr => c1 m1 r1.2 r2.2 hr.1 hr.2.1 hr.2.2)
def PLl (a1 a2 : Nat) (N1 N2 : Nat → Int32) : Prop := LEn 2 N1 N2 ∧ N1 1 = nI a1 ∧ N2 1 = nI a2
theorem PLl_u {a1 a2 j : Nat} {N1 N2 : Nat → Int32} {x y : Int32} (hj : 2 ≤ j) (h : PLl a1 a2 N1 N2) (e : x = y) : PLl a1 a2 (upd N1 j x) (upd N2 j y) := ⟨LEn_u h.1 e, (upd_other (by omega)).trans h.2.1, (upd_other (by omega)).trans h.2.2⟩
theorem k_p18 {m d : Nat} {N1 N2 : Nat → Int32} {τ1 τ2 : MS} (h : PQ σ1 σ2 (0, τ1) (0, τ2)) : Pm m (fun k => x_GP k d 0 18 N1 τ1) (fun k => x_GP k d 0 18 N2 τ2) (PQ σ1 σ2) := by
  refine Pm_suc rfl (fun k => e_print_18 k _ _ _) (fun k => e_print_18 k _ _ _) (fun m1 hm1 => ?_)
  exact Pm_some h
/-- a string's bytes -/
theorem k_p8 {a1 a2 p d : Nat} (b1 : a1 + 4 + p ≤ 1740000) (b2 : a2 + 4 + p ≤ 1740000) (hp : p ≤ 3996) (w1 : σ1.2.2 28 (a1 + 1) = nI p) (w2 : σ2.2.2 28 (a2 + 1) = nI p) (hw : ∀ i, i < p → σ2.2.2 28 (a2 + 4 + i) = σ1.2.2 28 (a1 + 4 + i)) : ∀ (m i : Nat) (N1 N2 : Nat → Int32) (τ1 τ2 : MS), i ≤ p → PLl a1 a2 N1 N2 → N2 4 = nI i → OtE τ1 τ2 → PrF σ1 τ1 → PrF σ2 τ2 → Pm m (fun k => x_GP k d 0 8 N1 τ1) (fun k => x_GP k d 0 8 N2 τ2) (PQ σ1 σ2) := by
  intro m
  induction m using Nat.strongRecOn with
  | ind m ih =>
  intro i N1 N2 τ1 τ2 hi hN n4 hO p1 p2
  refine Pm_suc rfl (fun k => e_print_8 k _ _ _) (fun k => e_print_8 k _ _ _) (fun m1 hm1 => ?_)
  rw [hN.2.1, hN.2.2, hN.1 4 (by omega), n4, n_add1, n_add1, n_add1, show nI a1 + 4 = nI (a1 + 4) from n_add (q := 4) (by omega), show nI a2 + 4 = nI (a2 + 4) from n_add (q := 4) (by omega), n_add (p := a1 + 4) (by omega), n_add (p := a2 + 4) (by omega)]
  refine Pm_chk (fun _ _ => ?_)
  rw [n_cl (p := a1 + 1) (by omega), n_cl (p := a2 + 1) (by omega), n_cl (p := a1 + 4 + i) (by omega), n_cl (p := a2 + 4 + i) (by omega), p1.2 28 (by decide), p2.2 28 (by decide), w1, w2]
  refine Pm_ite Iff.rfl (fun _ _ => ?_) (fun z _ => ?_)
  · refine Pm_suc rfl (fun k => e_print_9 k _ _ _) (fun k => e_print_9 k _ _ _) (fun m2 hm2 => ?_)
    rw [hN.1 2 (by omega)]
    refine Pm_ite Iff.rfl (fun _ _ => ?_) (fun _ _ => k_p18 ⟨hO, p1, p2⟩)
    exact Pm_ob (k_putP p1 p2 hO rfl) (fun r1 r2 hr => k_p18 hr)
  · have hlt : i < p := by
      by_cases c : i < p
      · exact c
      · exact absurd ((n_le (by omega) (by omega)).mpr (by omega)) z
    refine Pm_chk (fun _ _ => ?_)
    rw [hw i hlt]
    exact Pm_ob (k_putP p1 p2 hO rfl) (fun r1 r2 hr => ih m1 (by omega) (i + 1) _ _ r1.2 r2.2 (by omega) (PLl_u (by omega) hN rfl) rfl hr.1 hr.2.1 hr.2.2)
/-- a row's members -/
theorem k_p13 {a1 a2 p d M : Nat} (hrec : ∀ m, m < M → ∀ (e c1 c2 : Nat) (L1 L2 : Nat → Int32) (υ1 υ2 : MS), PrF σ1 υ1 → PrF σ2 υ2 → OtE υ1 υ2 → (c1 < 3 ∨ g1 c1) → (c2 < 3 ∨ g2 c2) → EVb (σ1.2.2 28) (σ2.2.2 28) c1 c2 → PLl c1 c2 L1 L2 → Pm m (fun k => x_GP k e 0 0 L1 υ1) (fun k => x_GP k e 0 0 L2 υ2) (PQ σ1 σ2)) (b1 : a1 + 4 + p ≤ 1740000) (b2 : a2 + 4 + p ≤ 1740000) (hp : p ≤ 3996) (w1 : σ1.2.2 28 (a1 + 1) = nI p) (w2 : σ2.2.2 28 (a2 + 1) = nI p) (hw : ∀ i, i < p → VC g1 g2 (σ1.2.2 28) (σ2.2.2 28) (σ1.2.2 28 (a1 + 4 + i)) (σ2.2.2 28 (a2 + 4 + i))) : ∀ (m i : Nat) (N1 N2 : Nat → Int32) (τ1 τ2 : MS), m ≤ M → i ≤ p → PLl a1 a2 N1 N2 → N2 4 = nI i → OtE τ1 τ2 → PrF σ1 τ1 → PrF σ2 τ2 → Pm m (fun k => x_GP k d 0 13 N1 τ1) (fun k => x_GP k d 0 13 N2 τ2) (PQ σ1 σ2) := by
  intro m
  induction m using Nat.strongRecOn with
  | ind m ih =>
  intro i N1 N2 τ1 τ2 hmM hi hN n4 hO p1 p2
  refine Pm_suc rfl (fun k => e_print_13 k _ _ _) (fun k => e_print_13 k _ _ _) (fun m1 hm1 => ?_)
  rw [hN.2.1, hN.2.2, hN.1 4 (by omega), n4, n_add1, n_add1]
  refine Pm_chk (fun _ _ => ?_)
  rw [n_cl (p := a1 + 1) (by omega), n_cl (p := a2 + 1) (by omega), p1.2 28 (by decide), p2.2 28 (by decide), w1, w2]
  refine Pm_ite Iff.rfl (fun _ _ => ?_) (fun z _ => ?_)
  · have c17 : ∀ (m : Nat) (O1 O2 : Nat → Int32), LEn 2 O1 O2 → Pm m (fun k => x_GP k d 0 17 O1 τ1) (fun k => x_GP k d 0 17 O2 τ2) (PQ σ1 σ2) := fun m O1 O2 hE => by
      refine Pm_suc rfl (fun k => e_print_17 k _ _ _) (fun k => e_print_17 k _ _ _) (fun m2 hm2 => ?_)
      rw [hE 100 (by omega)]
      exact Pm_ob (k_putP p1 p2 hO rfl) (fun r1 r2 hr => k_p18 hr)
    refine Pm_suc rfl (fun k => e_print_15 k _ _ _) (fun k => e_print_15 k _ _ _) (fun m2 hm2 => ?_)
    rw [hN.1 3 (by omega)]
    refine Pm_ite Iff.rfl (fun _ _ => c17 m2 _ _ (LEn_u hN.1 rfl)) (fun _ _ => ?_)
    refine Pm_suc rfl (fun k => e_print_16 k _ _ _) (fun k => e_print_16 k _ _ _) (fun m3 hm3 => ?_)
    exact c17 m3 _ _ (LEn_u hN.1 rfl)
  · have hlt : i < p := by
      by_cases c : i < p
      · exact c
      · exact absurd ((n_le (by omega) (by omega)).mpr (by omega)) z
    obtain ⟨c1, c2, v1, v2, v3, v4, v5, v6, v7⟩ := hw i hlt
    have c14 : ∀ (m' : Nat) (υ1 υ2 : MS), m' < m → OtE υ1 υ2 → PrF σ1 υ1 → PrF σ2 υ2 → Pm m' (fun k => x_GP k d 0 14 N1 υ1) (fun k => x_GP k d 0 14 N2 υ2) (PQ σ1 σ2) := fun m' υ1 υ2 hm' hO p1 p2 => by
      refine Pm_suc rfl (fun k => e_print_14 k _ _ _) (fun k => e_print_14 k _ _ _) (fun m2 hm2 => ?_)
      rw [hN.2.1, hN.2.2, hN.1 4 (by omega), n4, n_add1, show nI a1 + 4 = nI (a1 + 4) from n_add (q := 4) (by omega), show nI a2 + 4 = nI (a2 + 4) from n_add (q := 4) (by omega), n_add (p := a1 + 4) (by omega), n_add (p := a2 + 4) (by omega)]
      refine Pm_chk (fun _ _ => ?_)
      rw [n_cl (p := a1 + 4 + i) (by omega), n_cl (p := a2 + 4 + i) (by omega), p1.2 28 (by decide), p2.2 28 (by decide), v1, v3]
      refine Pm_odd (fun e he => ?_)
      refine Pm_ob (hrec m2 (by omega) e c1 c2 _ _ υ1 υ2 p1 p2 hO v2 v4 v5 ⟨fun j hj => ?_, rfl, rfl⟩) (fun r1 r2 hr => ?_)
      · by_cases c : j = 2
        · rw [c]; rfl
        · rw [upd_other c, upd_other c, upd_other (by omega), upd_other (by omega)]
      · exact ih m2 (by omega) (i + 1) _ _ r1.2 r2.2 (by omega) (by omega) (PLl_u (by omega) hN rfl) rfl hr.1 hr.2.1 hr.2.2
    refine Pm_ite Iff.rfl (fun _ _ => c14 m1 τ1 τ2 (by omega) hO p1 p2) (fun _ _ => ?_)
    refine Pm_ob (k_putP p1 p2 hO rfl) (fun r1 r2 hr => ?_)
    refine Pm_ob (k_putP hr.2.1 hr.2.2 hr.1 rfl) (fun s1 s2 hs => ?_)
    exact c14 m1 s1.2 s2.2 (by omega) hs.1 hs.2.1 hs.2.2
theorem k_prt (hS1 : HS g1 l1 B1 h1 σ1) (hS2 : HS g2 l2 B2 h2 σ2) : ∀ (m d a1 a2 : Nat) (L1 L2 : Nat → Int32) (τ1 τ2 : MS), PrF σ1 τ1 → PrF σ2 τ2 → OtE τ1 τ2 → (a1 < 3 ∨ g1 a1) → (a2 < 3 ∨ g2 a2) → EVb (σ1.2.2 28) (σ2.2.2 28) a1 a2 → PLl a1 a2 L1 L2 → Pm m (fun k => x_GP k d 0 0 L1 τ1) (fun k => x_GP k d 0 0 L2 τ2) (PQ σ1 σ2) := by
  intro m
  induction m using Nat.strongRecOn with
  | ind m ih =>
  intro d a1 a2 L1 L2 τ1 τ2 p1 p2 hO ha1 ha2 hv hL
  have t1 := p1.2 28 (by decide)
  have t2 := p2.2 28 (by decide)
  refine Pm_suc rfl (fun k => e_print_0 k _ _ _) (fun k => e_print_0 k _ _ _) (fun m1 hm1 => ?_)
  refine Pm_ob (Pm_t2 (s_kind (PrF_HS p1 hS1) ha1 (by exact hL.2.1)) (fun k => f_kind k _ _ _) (s_kind (PrF_HS p2 hS2) ha2 (by exact hL.2.2)) (fun k => f_kind k _ _ _)) (fun r1 r2 hr => ?_)
  rw [hr.1, hr.2, t1, t2, (EVb_sz hv).2.2]
  have hN : PLl a1 a2 (upd L1 3 (nI (kdN (σ1.2.2 28) a1))) (upd L2 3 (nI (kdN (σ1.2.2 28) a1))) := PLl_u (by omega) hL rfl
  have n3 : upd L2 3 (nI (kdN (σ1.2.2 28) a1)) 3 = nI (kdN (σ1.2.2 28) a1) := rfl
  show Pm m1 (fun k => if nI (kdN (σ1.2.2 28) a1) = 0 then ob (x_put k 0 (upd (fun _ => 0) 1 111) τ1) (fun r3 => ob (x_put k 0 (upd (fun _ => 0) 1 109) r3.2) (fun r4 => x_GP k d 0 18 (upd L1 3 (nI (kdN (σ1.2.2 28) a1))) r4.2)) else x_GP k d 0 1 (upd L1 3 (nI (kdN (σ1.2.2 28) a1))) τ1) (fun k => if nI (kdN (σ1.2.2 28) a1) = 0 then ob (x_put k 0 (upd (fun _ => 0) 1 111) τ2) (fun r3 => ob (x_put k 0 (upd (fun _ => 0) 1 109) r3.2) (fun r4 => x_GP k d 0 18 (upd L2 3 (nI (kdN (σ1.2.2 28) a1))) r4.2)) else x_GP k d 0 1 (upd L2 3 (nI (kdN (σ1.2.2 28) a1))) τ2) _
  generalize upd L1 3 (nI (kdN (σ1.2.2 28) a1)) = N1 at hN
  generalize upd L2 3 (nI (kdN (σ1.2.2 28) a1)) = N2 at hN n3
  refine Pm_ite Iff.rfl (fun _ _ => ?_) (fun z0 _ => ?_)
  · refine Pm_ob (k_putP p1 p2 hO rfl) (fun r1 r2 hr => ?_)
    exact Pm_ob (k_putP hr.2.1 hr.2.2 hr.1 rfl) (fun s1 s2 hs => k_p18 hs)
  refine Pm_suc rfl (fun k => e_print_1 k _ _ _) (fun k => e_print_1 k _ _ _) (fun m2 hm2 => ?_)
  rw [hN.1 3 (by omega), n3]
  by_cases c3 : a1 < 3
  · have e12 : a2 = a1 := by
      rcases EVb_3 hv with z | z
      · exact z.2
      · omega
    have k1 : kdN (σ1.2.2 28) a1 = 1 := by
      unfold kdN at z0 ⊢
      by_cases c0 : a1 = 0
      · rw [if_pos c0] at z0; exact absurd rfl z0
      · rw [if_neg c0, if_pos c3]
    have hall : N1 1 = N2 1 := by rw [hN.2.1, hN.2.2, e12]
    rw [k1, hall]
    refine Pm_ite Iff.rfl (fun _ _ => ?_) (fun z _ => absurd rfl z)
    have c3' : ∀ (m : Nat) (O1 O2 : Nat → Int32), LEn 2 O1 O2 → Pm m (fun k => x_GP k d 0 3 O1 τ1) (fun k => x_GP k d 0 3 O2 τ2) (PQ σ1 σ2) := fun m O1 O2 hE => by
      refine Pm_suc rfl (fun k => e_print_3 k _ _ _) (fun k => e_print_3 k _ _ _) (fun m3 hm3 => ?_)
      rw [hE 100 (by omega)]
      exact Pm_ob (k_ptr m3 0 _ _ τ1 τ2 (fun i hi => rfl) hO p1 p2) (fun r1 r2 hr => k_p18 hr)
    refine Pm_ite Iff.rfl (fun _ _ => c3' m2 _ _ (LEn_u hN.1 rfl)) (fun _ _ => ?_)
    refine Pm_suc rfl (fun k => e_print_2 k _ _ _) (fun k => e_print_2 k _ _ _) (fun m3 hm3 => ?_)
    exact c3' m3 _ _ (LEn_u hN.1 rfl)
  obtain ⟨k, p, hE⟩ := OE_of hS1 hS2 (ha1.resolve_left c3) ha2 hv
  obtain ⟨_, _, x3, x4, x5, x6, x7, x8, x9, x10, x11, x12, x13, x14, x15, x16, x17⟩ := hE
  rw [x7] at z0 n3 ⊢
  refine Pm_ite Iff.rfl (fun z _ => absurd ((n_eq (q := 1) (by omega) (by decide)).mp z) (by omega)) (fun _ _ => ?_)
  refine Pm_suc rfl (fun k => e_print_4 k _ _ _) (fun k => e_print_4 k _ _ _) (fun m3 hm3 => ?_)
  rw [hN.1 3 (by omega), n3]
  refine Pm_ite Iff.rfl (fun z _ => ?_) (fun z2 _ => ?_)
  · have z := (n_eq (q := 2) (by omega) (by decide)).mp z
    obtain ⟨w, hW⟩ := WhE_of hS1 hS2 ha1 ha2 hv (by omega)
    refine Pm_ob (k_putWhole (PrF_HS p1 hS1) (PrF_HS p2 hS2) (WhE_Pr p1 p2 hW) hO (by exact hN.2.1) (by exact hN.2.2) (fun i hi => ?_)) (fun r1 r2 hr => k_p18 (PQ_tr p1 p2 hr))
    rw [upd_other (by omega), upd_other (by omega)]
  refine Pm_suc rfl (fun k => e_print_5 k _ _ _) (fun k => e_print_5 k _ _ _) (fun m4 hm4 => ?_)
  rw [hN.1 3 (by omega), n3, hN.2.1, hN.2.2, show nI a1 + 4 = nI (a1 + 4) from n_add (q := 4) (by omega), show nI a2 + 4 = nI (a2 + 4) from n_add (q := 4) (by omega), n_cl (p := a1 + 4) (by omega), n_cl (p := a2 + 4) (by omega)]
  refine Pm_ite Iff.rfl (fun z _ => ?_) (fun z3 _ => ?_)
  · have z := (n_eq (q := 3) (by omega) (by decide)).mp z
    refine Pm_ob (k_putP p1 p2 hO rfl) (fun r1 r2 hr => ?_)
    refine Pm_chk (fun _ _ => ?_)
    obtain ⟨k', n', s', u', q1, q2, q3⟩ := HS_at hS1 (ha1.resolve_left c3)
    have hk' : k' = 3 := by
      have h1 := q1.1
      have hk := q1.2.2.2.2.1
      rw [x9] at h1
      have := (n_eq (by omega) (by omega)).mp h1
      omega
    have hn' : n' = p := by
      have h1 := q1.2.1
      have hn := q1.2.2.2.2.2.2.2.1
      rw [x11] at h1
      have := (n_eq (by omega) (by omega)).mp h1
      omega
    have hp1 : n' = 1 := (q1.2.2.2.2.2.2.2.2.2.1 hk').1
    have ev := x17 (by omega) 0 (by omega)
    rw [hr.2.1.2 28 (by decide), hr.2.2.2 28 (by decide), show σ2.2.2 28 (a2 + 4) = σ1.2.2 28 (a1 + 4) from ev]
    exact Pm_ob (k_pnm m4 12 _ _ r1.2 r2.2 (fun i hi => rfl) hr.1 hr.2.1 hr.2.2) (fun s1 s2 hs => k_p18 hs)
  refine Pm_suc rfl (fun k => e_print_6 k _ _ _) (fun k => e_print_6 k _ _ _) (fun m5 hm5 => ?_)
  rw [hN.1 3 (by omega), hN.1 2 (by omega), n3]
  refine Pm_ite Iff.rfl (fun z _ => ?_) (fun z4 _ => ?_)
  · have z := (n_eq (q := 4) (by omega) (by decide)).mp z
    have c7 : ∀ (m : Nat) (υ1 υ2 : MS), PQ σ1 σ2 (0, υ1) (0, υ2) → Pm m (fun k => x_GP k d 0 7 N1 υ1) (fun k => x_GP k d 0 7 N2 υ2) (PQ σ1 σ2) := fun m υ1 υ2 hu => by
      refine Pm_suc rfl (fun k => e_print_7 k _ _ _) (fun k => e_print_7 k _ _ _) (fun m6 hm6 => ?_)
      exact k_p8 x13 x14 x6 x11 x12 (x17 (by omega)) m6 0 _ _ υ1 υ2 (by omega) (PLl_u (by omega) hN rfl) rfl hu.1 hu.2.1 hu.2.2
    refine Pm_ite Iff.rfl (fun _ _ => ?_) (fun _ _ => c7 m5 τ1 τ2 ⟨hO, p1, p2⟩)
    exact Pm_ob (k_putP p1 p2 hO rfl) (fun r1 r2 hr => c7 m5 r1.2 r2.2 hr)
  have hk5 : 5 ≤ k := by
    have e2 : ¬ k = 2 := fun c => z2 (by rw [c]; rfl)
    have e3 : ¬ k = 3 := fun c => z3 (by rw [c]; rfl)
    have e4 : ¬ k = 4 := fun c => z4 (by rw [c]; rfl)
    omega
  have c12 : ∀ (m' : Nat) (O1 O2 : Nat → Int32), m' < m → PLl a1 a2 O1 O2 → Pm m' (fun k => x_GP k d 0 12 O1 τ1) (fun k => x_GP k d 0 12 O2 τ2) (PQ σ1 σ2) := fun m' O1 O2 hm' hE => by
    refine Pm_suc rfl (fun k => e_print_12 k _ _ _) (fun k => e_print_12 k _ _ _) (fun m6 hm6 => ?_)
    rw [hE.1 100 (by omega)]
    refine Pm_ob (k_putP p1 p2 hO rfl) (fun r1 r2 hr => ?_)
    exact k_p13 (M := m6) (fun m'' hm'' e c1 c2 K1 K2 υ1 υ2 q1 q2 q3 q4 q5 q6 q7 => ih m'' (by omega) e c1 c2 K1 K2 υ1 υ2 q1 q2 q3 q4 q5 q6 q7) x13 x14 x6 x11 x12 (x16 hk5) m6 0 _ _ r1.2 r2.2 (Nat.le_refl _) (by omega) (PLl_u (by omega) hE rfl) rfl hr.1 hr.2.1 hr.2.2
  refine Pm_suc rfl (fun k => e_print_10 k _ _ _) (fun k => e_print_10 k _ _ _) (fun m6 hm6 => ?_)
  rw [hN.1 3 (by omega)]
  refine Pm_ite Iff.rfl (fun _ _ => c12 m6 _ _ (by omega) (PLl_u (by omega) hN rfl)) (fun _ _ => ?_)
  refine Pm_suc rfl (fun k => e_print_11 k _ _ _) (fun k => e_print_11 k _ _ _) (fun m7 hm7 => ?_)
  exact c12 m7 _ _ (by omega) (PLl_u (by omega) hN rfl)
theorem k_printV (hS1 : HS g1 l1 B1 h1 σ1) (hS2 : HS g2 l2 B2 h2 σ2) {a1 a2 : Nat} (ha1 : a1 < 3 ∨ g1 a1) (ha2 : a2 < 3 ∨ g2 a2) (hv : EVb (σ1.2.2 28) (σ2.2.2 28) a1 a2) (hO : OtE σ1 σ2) {L1 L2 : Nat → Int32} (hL : PLl a1 a2 L1 L2) : Pm n (fun k => x_print k 0 L1 σ1) (fun k => x_print k 0 L2 σ2) (PQ σ1 σ2) := k_prt hS1 hS2 n 40 a1 a2 L1 L2 σ1 σ2 PrF_rf PrF_rf hO ha1 ha2 hv hL
end KPR
end JnS185
section JnS186
/-! Two runs side by side (reference): values upon the pile while the heaps grow; power sets. -/
section KPO
variable {g1 g2 g1' g2' g1'' g2'' : Nat → Prop} {l1 l2 l1' l2' l1'' l2'' : List Nat} {B1 h1 B2 h2 h1' h2' h1'' h2'' n : Nat} {σ1 σ2 τ1 τ2 : MS}
theorem VC_g2 (hS1 : HS g1 l1 B1 h1 σ1) (hS2 : HS g2 l2 B2 h2 σ2) (a1 : HG g1 B1 h1 σ1 τ1 g1' l1' h1') (a2 : HG g2 B2 h2 σ2 τ2 g2' l2' h2') {x y : Int32} (h : VC g1 g2 (σ1.2.2 28) (σ2.2.2 28) x y) : VC g1' g2' (τ1.2.2 28) (τ2.2.2 28) x y := by
  obtain ⟨m, m', e1, e2, e3, e4, e5, e6, e7⟩ := h
  exact ⟨m, m', e1, e2.imp id (a1.2.1 m), e3, e4.imp id (a2.2.1 m'), EVb_g2 hS1.2.2.2.2 (HS_b hS1).2 a1.2.2.2 hS2.2.2.2.2 (HS_b hS2).2 a2.2.2.2 e2 e4 e5, e6, e7⟩
/-- an operation that went well on both sides -/
theorem KQ_gr {K t : Nat} {r1 r2 : Int32 × MS} (hK : K ≤ 1000000) (hS1 : HS g1 l1 B1 h1 σ1) (hS2 : HS g2 l2 B2 h2 σ2) (a : VO g1 B1 h1 t σ1 r1) (b : VO g2 B2 h2 t σ2 r2) (q : KQ h1 h2 K r1 r2) (e : r1.2.1 56 = 0) : ∃ (g1' : Nat → Prop) (l1' : List Nat) (h1' : Nat) (g2' : Nat → Prop) (l2' : List Nat) (h2' : Nat), HG g1 B1 h1 σ1 r1.2 g1' l1' h1' ∧ HG g2 B2 h2 σ2 r2.2 g2' l2' h2' ∧ FW t σ1 r1.2 ∧ FW t σ2 r2.2 ∧ r1.2.1 59 = nI t ∧ r2.2.1 59 = nI t ∧ r2.2.1 56 = 0 ∧ VC g1' g2' (r1.2.2.2 28) (r2.2.2.2 28) r1.1 r2.1 ∧ h1' ≤ h1 + K ∧ h2' ≤ h2 + K := by
  obtain ⟨g1', l1', h1', a1, a2, a3, a4, a5, k1, a6, a7⟩ := a
  obtain ⟨g2', l2', h2', b1, b2, b3, b4, b5, k2, b6, b7⟩ := b
  obtain ⟨q1, q2, p1, p2, c1, c2, c3, c4⟩ := q
  obtain ⟨x, y, d1, d2, d3, d4, d5⟩ := q2 e
  have w1 := HS_b hS1
  have w2 := HS_b hS2
  have u1 := HS_b a1.1
  have u2 := HS_b b1.1
  have f1 : h1' = p1 := (n_eq (by omega) (by omega)).mp (a1.1.2.2.1.symm.trans c1)
  have f2 : h2' = p2 := (n_eq (by omega) (by omega)).mp (b1.1.2.2.1.symm.trans c2)
  have v1 := HS_vb a1.1 a7
  have v2 := HS_vb b1.1 b7
  have e1 : k1 = x := (n_eq (by omega) (by omega)).mp (a6.symm.trans d1)
  have e2 : k2 = y := (n_eq (by omega) (by omega)).mp (b6.symm.trans d2)
  subst e1
  subst e2
  exact ⟨g1', l1', h1', g2', l2', h2', a1, b1, a2, b2, a3, b3, q1.mp e, ⟨k1, k2, d1, a7, d2, b7, d5, d3, d4⟩, by omega, by omega⟩
/-- w values that hold the same upon both piles, above f; the heaps may have grown by K -/
def KPx (g1 g2 : Nat → Prop) (B1 h1 B2 h2 f w K : Nat) (σ1 σ2 τ1 τ2 : MS) (g1' : Nat → Prop) (l1' : List Nat) (h1' : Nat) (g2' : Nat → Prop) (l2' : List Nat) (h2' : Nat) : Prop := HG g1 B1 h1 σ1 τ1 g1' l1' h1' ∧ HG g2 B2 h2 σ2 τ2 g2' l2' h2' ∧ FW f σ1 τ1 ∧ FW f σ2 τ2 ∧ τ1.1 59 = nI (f + w) ∧ τ2.1 59 = nI (f + w) ∧ PlE g1' g2' τ1 τ2 f w ∧ τ1.1 56 = 0 ∧ τ2.1 56 = 0 ∧ h1' ≤ h1 + K ∧ h2' ≤ h2 + K
def KPh (g1 g2 : Nat → Prop) (B1 h1 B2 h2 f w K : Nat) (σ1 σ2 τ1 τ2 : MS) : Prop := ∃ (g1' : Nat → Prop) (l1' : List Nat) (h1' : Nat) (g2' : Nat → Prop) (l2' : List Nat) (h2' : Nat), KPx g1 g2 B1 h1 B2 h2 f w K σ1 σ2 τ1 τ2 g1' l1' h1' g2' l2' h2'
theorem KPh_0 {f : Nat} (hS1 : HS g1 l1 B1 h1 σ1) (hS2 : HS g2 l2 B2 h2 σ2) (e1 : σ1.1 56 = 0) (e2 : σ2.1 56 = 0) (t1 : σ1.1 59 = nI f) (t2 : σ2.1 59 = nI f) : KPh g1 g2 B1 h1 B2 h2 f 0 0 σ1 σ2 σ1 σ2 := ⟨g1, l1, h1, g2, l2, h2, HG_rf hS1, HG_rf hS2, FW_rf, FW_rf, t1, t2, fun i hi => absurd hi (Nat.not_lt_zero i), e1, e2, by omega, by omega⟩
/-- one more: what an operation gave -/
theorem KPx_op {f w K K' : Nat} {r1 r2 : Int32 × MS} (hK : KPx g1 g2 B1 h1 B2 h2 f w K σ1 σ2 τ1 τ2 g1' l1' h1' g2' l2' h2') (a1 : HG g1' B1 h1' τ1 r1.2 g1'' l1'' h1'') (a2 : HG g2' B2 h2' τ2 r2.2 g2'' l2'' h2'') (f1 : FW (f + w) τ1 r1.2) (f2 : FW (f + w) τ2 r2.2) (e1 : r1.2.1 56 = 0) (e2 : r2.2.1 56 = 0) (hv : VC g1'' g2'' (r1.2.2.2 28) (r2.2.2.2 28) r1.1 r2.1) (b1 : h1'' ≤ h1' + K') (b2 : h2'' ≤ h2' + K') : KPx g1 g2 B1 h1 B2 h2 f (w + 1) (K + K') σ1 σ2 (mPu r1.2 (f + w) r1.1) (mPu r2.2 (f + w) r2.1) g1'' l1'' h1'' g2'' l2'' h2'' := by
  obtain ⟨q1, q2, q3, q4, q5, q6, q7, q8, q9, q10, q11⟩ := hK
  have k1 := HG_tr q1 a1
  have k2 := HG_tr q2 a2
  refine ⟨⟨HS_pu k1.1, k1.2.1, k1.2.2.1, fun i x y => ?_⟩, ⟨HS_pu k2.1, k2.2.1, k2.2.2.1, fun i x y => ?_⟩, FW_tr (FW_tr q3 (FW_mo f1 (by omega))) (FW_pu (by omega)), FW_tr (FW_tr q4 (FW_mo f2 (by omega))) (FW_pu (by omega)), mPu_59, mPu_59, fun i hi => ?_, (mPu_s (by decide)).trans e1, (mPu_s (by decide)).trans e2, by omega, by omega⟩
  · rw [mPu_o (by decide)]; exact k1.2.2.2 i x y
  · rw [mPu_o (by decide)]; exact k2.2.2.2 i x y
  · show VC g1'' g2'' ((mPu r1.2 (f + w) r1.1).2.2 28) ((mPu r2.2 (f + w) r2.1).2.2 28) ((mPu r1.2 (f + w) r1.1).2.2 29 (f + i)) ((mPu r2.2 (f + w) r2.1).2.2 29 (f + i))
    rw [mPu_o (by decide), mPu_o (by decide), mPu_29, mPu_29]
    by_cases e : i = w
    · rw [e, upd_same, upd_same]; exact hv
    · rw [upd_other (by omega), upd_other (by omega), f1.2.2 (f + i) (by omega), f2.2.2 (f + i) (by omega)]
      exact VC_g2 q1.1 q2.1 a1 a2 (q7 i (by omega))
theorem VO_E {g : Nat → Prop} {B h t : Nat} {σ : MS} {r : Int32 × MS} (hr : VO g B h t σ r) : ErB r.2 := by
  obtain ⟨_, _, _, _, _, _, e, _⟩ := hr
  exact e
theorem ErB_pos {τ : MS} (h : ErB τ) (e : ¬ τ.1 56 = 0) : ¬ τ.1 56 ≤ 0 := by
  obtain ⟨c, c1, c2⟩ := h
  rw [c1] at e ⊢
  intro z
  have z := (n_le0 (by omega)).mp z
  exact e (by rw [z]; rfl)
/-- both with an error -/
def KE (h1 h2 K : Nat) (τ1 τ2 : MS) : Prop := ¬ τ1.1 56 = 0 ∧ ¬ τ2.1 56 = 0 ∧ (∃ p1 p2, τ1.1 55 = nI p1 ∧ τ2.1 55 = nI p2 ∧ p1 ≤ h1 + K ∧ p2 ≤ h2 + K) ∧ ErB τ1 ∧ ErB τ2
theorem KE_le {K : Nat} (h : KE h1 h2 K τ1 τ2) : ¬ τ1.1 56 ≤ 0 ∧ ¬ τ2.1 56 ≤ 0 := ⟨ErB_pos h.2.2.2.1 h.1, ErB_pos h.2.2.2.2 h.2.1⟩
theorem KE_mo {K K' : Nat} (h : KE h1 h2 K τ1 τ2) (hK : K ≤ K') : KE h1 h2 K' τ1 τ2 := by
  obtain ⟨e1, e2, ⟨p1, p2, c1, c2, c3, c4⟩, b1, b2⟩ := h
  exact ⟨e1, e2, ⟨p1, p2, c1, c2, by omega, by omega⟩, b1, b2⟩
theorem KE_Q {K : Nat} {x y : Int32} (h : KE h1 h2 K τ1 τ2) : KQ h1 h2 K (x, τ1) (y, τ2) := ⟨⟨fun z => absurd z h.1, fun z => absurd z h.2.1⟩, fun z => absurd z h.1, h.2.2.1⟩
theorem KE_of {K K' : Nat} {r1 r2 : Int32 × MS} (q : KQ h1' h2' K r1 r2) (e : ¬ r1.2.1 56 = 0) (b1 : h1' + K ≤ h1 + K') (b2 : h2' + K ≤ h2 + K') (x1 : ErB r1.2) (x2 : ErB r2.2) : KE h1 h2 K' r1.2 r2.2 := by
  obtain ⟨q1, q2, p1, p2, c1, c2, c3, c4⟩ := q
  exact ⟨e, fun z => e (q1.mpr z), ⟨p1, p2, c1, c2, by omega, by omega⟩, x1, x2⟩
theorem KE_pu {K t : Nat} {x y : Int32} (h : KE h1 h2 K τ1 τ2) : KE h1 h2 K (mPu τ1 t x) (mPu τ2 t y) := by
  obtain ⟨e1, e2, ⟨p1, p2, c1, c2, c3, c4⟩, b1, b2⟩ := h
  exact ⟨by rw [mPu_s (by decide)]; exact e1, by rw [mPu_s (by decide)]; exact e2, ⟨p1, p2, by rw [mPu_s (by decide)]; exact c1, by rw [mPu_s (by decide)]; exact c2, c3, c4⟩, ErB_c (mPu_s (by decide)) b1, ErB_c (mPu_s (by decide)) b2⟩
theorem KQ_tr {K K' : Nat} {r1 r2 : Int32 × MS} (q : KQ h1' h2' K r1 r2) (b1 : h1' + K ≤ h1 + K') (b2 : h2' + K ≤ h2 + K') : KQ h1 h2 K' r1 r2 := by
  obtain ⟨q1, q2, p1, p2, c1, c2, c3, c4⟩ := q
  exact ⟨q1, q2, p1, p2, c1, c2, by omega, by omega⟩
theorem k_powerSet {f v1 v2 : Nat} (hS1 : HS g1 l1 B1 h1 σ1) (hS2 : HS g2 l2 B2 h2 σ2) (e1 : σ1.1 56 = 0) (e2 : σ2.1 56 = 0) (t1 : σ1.1 59 = nI f) (t2 : σ2.1 59 = nI f) (hf : f ≤ 177000) (hr1 : h1 + 4004 ≤ B1 + 870000) (hr2 : h2 + 4004 ≤ B2 + 870000) (hv1 : v1 < 3 ∨ g1 v1) (hv2 : v2 < 3 ∨ g2 v2) (hv : EVb (σ1.2.2 28) (σ2.2.2 28) v1 v2) {L1 L2 : Nat → Int32} (d1 : L1 1 = nI v1) (f1 : L2 1 = nI v2) (hL : LEn 2 L1 L2) : Pm n (fun k => x_powerSet k 0 L1 σ1) (fun k => x_powerSet k 0 L2 σ2) (KQ h1 h2 4004) := by
  refine Pm_suc rfl (fun k => by rw [x_powerSet]) (fun k => by rw [x_powerSet]) (fun m1 _ => ?_)
  refine Pm_ob (Pm_t2 (s_kind hS1 hv1 (by exact d1)) (fun k => f_kind k _ _ _) (s_kind hS2 hv2 (by exact f1)) (fun k => f_kind k _ _ _)) (fun r1 r2 hr => ?_)
  rw [hr.1, hr.2, (EVb_sz hv).2.2]
  have kv := kdN_6 hS1 hv1
  refine Pm_ite Iff.rfl (fun w _ => ?_) (fun _ _ => Pm_ob (k_wrongKind hS1 hS2 _ _) (fun r1 r2 hr => Pm_some hr))
  have w := (n_eq (q := 6) (by omega) (by decide)).mp w
  obtain ⟨k, p, hO⟩ := OE_of hS1 hS2 (kdN_ge hS1 hv1 (by omega)) hv2 hv
  obtain ⟨_, _, _, _, k6, o6, o7, _, o9, o10, o11, o12, o13, o14, _, o16, o17⟩ := hO
  have ca := o16 (by omega)
  refine Pm_suc rfl (fun k => by rw [x_powerSet]) (fun k => by rw [x_powerSet]) (fun m2 _ => ?_)
  rw [d1, f1, n_add1, n_add1, n_cl (p := v1 + 1) (by omega), n_cl (p := v2 + 1) (by omega), o11, o12]
  refine Pm_chk (fun _ _ => ?_)
  refine Pm_ite Iff.rfl (fun z _ => ?_) (fun _ _ => ?_)
  case refine_2 =>
    refine Pm_ob (k_fail (K := 4004) (e := 5) (by decide) hS1 hS2 rfl rfl) (fun r1 r2 hr => ?_)
    rw [hr.1, hr.2.1]
    exact Pm_some hr.2.2
  have hp8 := (n_le (q := 8) (by omega) (by decide)).mp z
  obtain ⟨p1, p2, p3⟩ := n_pow8 hp8
  generalize 2 ^ p = P at p1 p2 p3
  have vb1 : B1 + 4 ≤ v1 ∧ v1 + 4 + p ≤ h1 := by
    obtain ⟨k', n', s', u', q1, q2, q3⟩ := HS_at hS1 (kdN_ge hS1 hv1 (by omega))
    have hn := q1.2.2.2.2.2.2.2.1
    have h1 := q1.2.1
    rw [o11] at h1
    have := (n_eq (by omega) (by omega)).mp h1
    omega
  have vb2 : B2 + 4 ≤ v2 ∧ v2 + 4 + p ≤ h2 := by
    obtain ⟨k', n', s', u', q1, q2, q3⟩ := HS_at hS2 (kdN_ge hS2 hv2 (by rw [(EVb_sz hv).2.2]; omega))
    have hn := q1.2.2.2.2.2.2.2.1
    have h1 := q1.2.1
    rw [o12] at h1
    have := (n_eq (by omega) (by omega)).mp h1
    omega
  have b9 : ∀ (m : Nat) (N1 N2 : Nat → Int32) (r1 r2 : Int32 × MS), N1 100 = r1.1 → N2 100 = r2.1 → KQ h1 h2 4004 r1 r2 → Pm m (fun k => x_powerSet k 9 N1 r1.2) (fun k => x_powerSet k 9 N2 r2.2) (KQ h1 h2 4004) := fun m N1 N2 r1 r2 u1 u2 hr => by
    refine Pm_suc rfl (fun k => by rw [x_powerSet]) (fun k => by rw [x_powerSet]) (fun m3 _ => ?_)
    rw [u1, u2]
    exact Pm_some hr
  have bE7 : ∀ (m : Nat) (N1 N2 : Nat → Int32) (τ1 τ2 : MS), KE h1 h2 4004 τ1 τ2 → Pm m (fun k => x_powerSet k 7 N1 τ1) (fun k => x_powerSet k 7 N2 τ2) (KQ h1 h2 4004) := fun m N1 N2 τ1 τ2 hE => by
    refine Pm_suc rfl (fun k => by rw [x_powerSet]) (fun k => by rw [x_powerSet]) (fun m3 _ => ?_)
    refine Pm_ite ⟨fun z => absurd z hE.1, fun z => absurd z hE.2.1⟩ (fun z _ => absurd z hE.1) (fun _ _ => ?_)
    refine Pm_suc rfl (fun k => by rw [x_powerSet]) (fun k => by rw [x_powerSet]) (fun m4 _ => ?_)
    exact b9 m4 _ _ (0, τ1) (0, τ2) rfl rfl (KE_Q hE)
  have b7 : ∀ (m i : Nat) (N1 N2 : Nat → Int32) (τ1 τ2 : MS), i ≤ 256 → LEn 2 N1 N2 → N2 3 = nI f → KPh g1 g2 B1 h1 B2 h2 f i (12 * i) σ1 σ2 τ1 τ2 → Pm m (fun k => x_powerSet k 7 N1 τ1) (fun k => x_powerSet k 7 N2 τ2) (KQ h1 h2 4004) := fun m i N1 N2 τ1 τ2 hi hN n3 hK => by
    obtain ⟨g1', l1', h1', g2', l2', h2', q1, q2, q3, q4, q5, q6, q7, q8, q9, q10, q11⟩ := hK
    refine Pm_suc rfl (fun k => by rw [x_powerSet]) (fun k => by rw [x_powerSet]) (fun m3 _ => ?_)
    rw [q8, q9]
    refine Pm_ite Iff.rfl (fun _ _ => ?_) (fun z _ => absurd rfl z)
    exact Pm_ob (k_setOf q1.1 q2.1 q8 q9 q5 q6 (by omega) (by omega) (by omega) (by omega) q7 (by show N1 3 = _; rw [hN 3 (by omega), n3]) (by exact n3)) (fun r1 r2 hr => b9 m3 _ _ r1 r2 rfl rfl (KQ_tr hr (by omega) (by omega)))
  have b3 : ∀ (m i : Nat) (N1 N2 : Nat → Int32) (τ1 τ2 : MS), i ≤ P → LEn 2 N1 N2 → N1 1 = nI v1 → N2 1 = nI v2 → N2 2 = nI p → N2 3 = nI f → N2 4 = nI i → KPh g1 g2 B1 h1 B2 h2 f i (12 * i) σ1 σ2 τ1 τ2 → Pm m (fun k => x_powerSet k 3 N1 τ1) (fun k => x_powerSet k 3 N2 τ2) (KQ h1 h2 4004) := by
    intro m
    induction m using Nat.strongRecOn with
    | ind m ih =>
    intro i N1 N2 τ1 τ2 hi hN n1 y1 n2 n3 n4 hK
    refine Pm_suc rfl (fun k => by rw [x_powerSet]) (fun k => by rw [x_powerSet]) (fun k1 hk1 => ?_)
    rw [hN 2 (by omega), hN 4 (by omega), n2, p1, n4]
    refine Pm_ite Iff.rfl (fun _ _ => b7 k1 i N1 N2 τ1 τ2 (by omega) hN n3 hK) (fun z _ => ?_)
    have hiP : i < P := by
      by_cases c : i < P
      · exact c
      · exact absurd ((n_le (by omega) (by omega)).mpr (by omega)) z
    obtain ⟨g1', l1', h1', g2', l2', h2', hX⟩ := hK
    have hX0 := hX
    obtain ⟨q1, q2, q3, q4, q5, q6, q7, q8, q9, q10, q11⟩ := hX
    rw [q8, q9]
    refine Pm_ite Iff.rfl (fun _ _ => ?_) (fun z _ => absurd rfl z)
    rw [q5, q6]
    have b4 : ∀ (m' j w : Nat) (M1 M2 : Nat → Int32) (υ1 υ2 : MS), m' < m → j ≤ p → w ≤ j → LEn 2 M1 M2 → M1 1 = nI v1 → M2 1 = nI v2 → M2 2 = nI p → M2 3 = nI f → M2 4 = nI i → M2 5 = nI (f + i) → M2 6 = nI j → KPu g1' g2' (f + i) w τ1 τ2 υ1 υ2 → Pm m' (fun k => x_powerSet k 4 M1 υ1) (fun k => x_powerSet k 4 M2 υ2) (KQ h1 h2 4004) := by
      intro m'
      induction m' using Nat.strongRecOn with
      | ind m' ih4 =>
      intro j w M1 M2 υ1 υ2 hm' hj hw hM x1 z1 z2 z3 z4 z5 z6 hU
      have b5 : ∀ (m'' w' : Nat) (ρ1 ρ2 : MS), m'' < m' → j < p → w' ≤ j + 1 → KPu g1' g2' (f + i) w' τ1 τ2 ρ1 ρ2 → Pm m'' (fun k => x_powerSet k 5 M1 ρ1) (fun k => x_powerSet k 5 M2 ρ2) (KQ h1 h2 4004) := fun m'' w' ρ1 ρ2 hm'' hjp hw' hU' => by
        refine Pm_suc rfl (fun k => by rw [x_powerSet]) (fun k => by rw [x_powerSet]) (fun k3 hk3 => ?_)
        exact ih4 k3 (by omega) (j + 1) w' _ _ _ _ (by omega) (by omega) hw' (LEn_u hM (by rw [hM 6 (by omega)])) x1 z1 z2 z3 z4 z5 (by show M2 6 + 1 = _; rw [z6, n_add1]) hU'
      refine Pm_suc rfl (fun k => by rw [x_powerSet]) (fun k => by rw [x_powerSet]) (fun k2 hk2 => ?_)
      rw [hM 2 (by omega), hM 6 (by omega), hM 4 (by omega), z2, z6, z4, x1, z1, show nI v1 + 4 = nI (v1 + 4) from n_add (q := 4) (by omega), show nI v2 + 4 = nI (v2 + 4) from n_add (q := 4) (by omega), n_add (p := v1 + 4) (by omega), n_add (p := v2 + 4) (by omega)]
      refine Pm_ite Iff.rfl (fun _ _ => ?_) (fun z _ => ?_)
      · refine Pm_suc rfl (fun k => by rw [x_powerSet]) (fun k => by rw [x_powerSet]) (fun k3 hk3 => ?_)
        refine Pm_ob (Pm_un (PuS_set hU.1 q1.1 ⟨0, q8, by decide⟩ (by omega) (by omega) (by show M1 5 = _; rw [hM 5 (by omega), z5])) (fun k => f_setOf k _ _ _) (PuS_set hU.2.1 q2.1 ⟨0, q9, by decide⟩ (by omega) (by omega) (by exact z5)) (fun k => f_setOf k _ _ _) (k_setP hU q1.1 q2.1 q8 q9 (by omega) (by omega) (by omega) (by omega) (by show M1 5 = _; rw [hM 5 (by omega), z5]) (by exact z5))) (fun r1 r2 hr => ?_)
        obtain ⟨hq, hv1', hv2'⟩ := hr
        have s1 : r1.2.1 59 = nI (f + i) := by obtain ⟨_, _, _, _, _, e, _⟩ := hv1'; exact e
        have s2 : r2.2.1 59 = nI (f + i) := by obtain ⟨_, _, _, _, _, e, _⟩ := hv2'; exact e
        refine Pm_ob (Pm_t2 (s_push s1 (by omega) _) (fun k => f_push k _ _ _) (s_push s2 (by omega) _) (fun k => f_push k _ _ _)) (fun u1 u2 hu => ?_)
        rw [hu.1, hu.2]
        have hM' : LEn 2 (upd M1 4 (M1 4 + 1)) (upd M2 4 (M2 4 + 1)) := LEn_u hM (by rw [hM 4 (by omega)])
        have m4 : upd M2 4 (M2 4 + 1) 4 = nI (i + 1) := by show M2 4 + 1 = _; rw [z4, n_add1]
        by_cases er : r1.2.1 56 = 0
        · obtain ⟨g1'', l1'', h1'', g2'', l2'', h2'', a1, a2, a3, a4, a5, a6, a7, a8, a9, a10⟩ := KQ_gr (by omega) q1.1 q2.1 hv1' hv2' hq er
          refine ih k3 (by omega) (i + 1) _ _ _ _ (by omega) hM' x1 z1 z2 z3 m4 ⟨g1'', l1'', h1'', g2'', l2'', h2'', ?_⟩
          have := KPx_op (K' := 12) hX0 a1 a2 a3 a4 er a7 a8 (by omega) (by omega)
          rw [show 12 * (i + 1) = 12 * i + 12 by omega]
          exact this
        · have hE := KE_pu (t := f + i) (x := r1.1) (y := r2.1) (KE_of (h1 := h1) (h2 := h2) (K' := 4004) hq er (by omega) (by omega) (VO_E hv1') (VO_E hv2'))
          refine Pm_suc rfl (fun k => by rw [x_powerSet]) (fun k => by rw [x_powerSet]) (fun k4 hk4 => ?_)
          rw [hM' 2 (by omega), hM' 4 (by omega)]
          refine Pm_ite Iff.rfl (fun _ _ => bE7 k4 _ _ _ _ hE) (fun _ _ => ?_)
          exact Pm_ite ⟨fun z => absurd z hE.1, fun z => absurd z hE.2.1⟩ (fun z _ => absurd z hE.1) (fun _ _ => bE7 k4 _ _ _ _ hE)
      · have hjp : j < p := by
          by_cases c : j < p
          · exact c
          · exact absurd ((n_le (by omega) (by omega)).mpr (by omega)) z
        refine Pm_ite Iff.rfl (fun _ _ => ?_) (fun _ _ => b5 k2 w υ1 υ2 (by omega) hjp (by omega) hU)
        rw [n_cl (p := v1 + 4 + j) (by omega), n_cl (p := v2 + 4 + j) (by omega), hU.1.2.1 28 (by decide), hU.2.1.2.1 28 (by decide)]
        refine Pm_chk (fun _ _ => ?_)
        refine Pm_ob (k_push hU (by omega) (x := τ1.2.2 28 (v1 + 4 + j)) (y := τ2.2.2 28 (v2 + 4 + j)) ?_ rfl rfl) (fun r1 r2 hr => b5 k2 (w + 1) r1.2 r2.2 (by omega) hjp (by omega) hr)
        rw [q1.2.2.2 (v1 + 4 + j) (by omega) (by omega), q2.2.2.2 (v2 + 4 + j) (by omega) (by omega)]
        exact VC_g2 hS1 hS2 q1 q2 (ca j hjp)
    exact b4 k1 0 0 _ _ _ _ (by omega) (Nat.zero_le _) (Nat.le_refl _) (LEn_u (LEn_u hN rfl) rfl) n1 y1 n2 n3 n4 rfl rfl (KPu_0 q5 q6)
  refine Pm_suc rfl (fun k => by rw [x_powerSet]) (fun k => by rw [x_powerSet]) (fun m3 _ => ?_)
  rw [t1, t2]
  exact b3 m3 0 _ _ _ _ (by omega) (LEn_u (LEn_u (LEn_u hL rfl) rfl) rfl) d1 f1 rfl rfl rfl (KPh_0 hS1 hS2 e1 e2 t1 t2)
end KPO
end JnS186
section JnS187
/-! Two runs side by side (reference): the functions of one value. -/
section KFU
variable {g1 g2 : Nat → Prop} {l1 l2 : List Nat} {B1 h1 B2 h2 n : Nat} {σ1 σ2 : MS}
theorem KW_wl {K K' : Nat} {x1 x2 : Nat → Option (Int32 × MS)} (hKK : K ≤ K') (hw : σ1.2.1 96 = σ2.2.1 96) (t1 : ∀ k, Wk (x1 k) σ1.2.1) (t2 : ∀ k, Wk (x2 k) σ2.2.1) (t : Pm n x1 x2 (KQ h1 h2 K)) : Pm n x1 x2 (KW h1 h2 K') := Pm_mono (Pm_wl t1 t2 t) (fun r1 r2 hr => ⟨KQ_mo hr.1 hKK, by rw [hr.2.1, hr.2.2]; exact hw⟩)
theorem KW_mo {K K' : Nat} {r1 r2 : Int32 × MS} (h : KW h1 h2 K r1 r2) (hK : K ≤ K') : KW h1 h2 K' r1 r2 := ⟨KQ_mo h.1 hK, h.2⟩
theorem k_function {f v1 v2 : Nat} (hS1 : HS g1 l1 B1 h1 σ1) (hS2 : HS g2 l2 B2 h2 σ2) (e1 : σ1.1 56 = 0) (e2 : σ2.1 56 = 0) (t1 : σ1.1 59 = nI f) (t2 : σ2.1 59 = nI f) (hf : f ≤ 177000) (hr1 : h1 + 4004 ≤ B1 + 870000) (hr2 : h2 + 4004 ≤ B2 + 870000) (hv1 : v1 < 3 ∨ g1 v1) (hv2 : v2 < 3 ∨ g2 v2) (hv : EVb (σ1.2.2 28) (σ2.2.2 28) v1 v2) (hT : σ1.2.2 2 = σ2.2.2 2) (hw : σ1.2.1 96 = σ2.2.1 96) {L1 L2 : Nat → Int32} (d0 : L1 1 = L2 1) (d1 : L1 2 = nI v1) (f1 : L2 2 = nI v2) (hL : LEn 3 L1 L2) : Pm n (fun k => x_function k 0 L1 σ1) (fun k => x_function k 0 L2 σ2) (KW h1 h2 4004) := by
  have kv := kdN_6 hS1 hv1
  refine Pm_suc rfl (fun k => by rw [x_function]) (fun k => by rw [x_function]) (fun m1 _ => ?_)
  refine Pm_ob (Pm_t2 (s_kind hS1 hv1 (by exact d1)) (fun k => f_kind k _ _ _) (s_kind hS2 hv2 (by exact f1)) (fun k => f_kind k _ _ _)) (fun r1 r2 hr => ?_)
  rw [hr.1, hr.2, (EVb_sz hv).2.2, d0]
  have m2 : upd L1 3 (nI (kdN (σ1.2.2 28) v1)) 2 = nI v1 := d1
  have o2 : upd L2 3 (nI (kdN (σ1.2.2 28) v1)) 2 = nI v2 := f1
  have p3 : upd L1 3 (nI (kdN (σ1.2.2 28) v1)) 3 = nI (kdN (σ1.2.2 28) v1) := rfl
  have o3 : upd L2 3 (nI (kdN (σ1.2.2 28) v1)) 3 = nI (kdN (σ1.2.2 28) v1) := rfl
  have hM : LEn 3 (upd L1 3 (nI (kdN (σ1.2.2 28) v1))) (upd L2 3 (nI (kdN (σ1.2.2 28) v1))) := LEn_u hL rfl
  generalize upd L1 3 (nI (kdN (σ1.2.2 28) v1)) = M1 at m2 p3 hM
  generalize upd L2 3 (nI (kdN (σ1.2.2 28) v1)) = M2 at o2 o3 hM
  have e4 : ∀ (m : Nat) (N1 N2 : Nat → Int32) (r1 r2 : Int32 × MS), N1 100 = r1.1 → N2 100 = r2.1 → KW h1 h2 4004 r1 r2 → Pm m (fun k => x_function k 4 N1 r1.2) (fun k => x_function k 4 N2 r2.2) (KW h1 h2 4004) := fun m N1 N2 r1 r2 u1 u2 hr => by
    refine Pm_suc rfl (fun k => by rw [x_function]) (fun k => by rw [x_function]) (fun m3 _ => ?_)
    rw [u1, u2]; exact Pm_some hr
  have e8 : ∀ (m : Nat) (N1 N2 : Nat → Int32) (r1 r2 : Int32 × MS), N1 100 = r1.1 → N2 100 = r2.1 → KW h1 h2 4004 r1 r2 → Pm m (fun k => x_function k 8 N1 r1.2) (fun k => x_function k 8 N2 r2.2) (KW h1 h2 4004) := fun m N1 N2 r1 r2 u1 u2 hr => by
    refine Pm_suc rfl (fun k => by rw [x_function]) (fun k => by rw [x_function]) (fun m3 _ => ?_)
    rw [u1, u2]; exact Pm_some hr
  have wk : ∀ (m : Nat) (N1 N2 : Nat → Int32), Pm m (fun k => x_wrongKind k 0 N1 σ1) (fun k => x_wrongKind k 0 N2 σ2) (KW h1 h2 4004) := fun m N1 N2 => KW_wl (K := 4004) (Nat.le_refl _) hw (fun k => wl_wrongKind k _ _ _) (fun k => wl_wrongKind k _ _ _) (k_wrongKind hS1 hS2 _ _)
  have b18 : ∀ m, Pm m (fun k => x_function k 18 M1 σ1) (fun k => x_function k 18 M2 σ2) (KW h1 h2 4004) := fun m => by
    refine Pm_suc rfl (fun k => by rw [x_function]) (fun k => by rw [x_function]) (fun m3 _ => ?_)
    refine Pm_ob (k_drawn hS1 hS2 e1 e2 (by omega) (by omega) hv1 hv2 hv hw (by exact m2) (by exact o2) (fun i hi => ?_)) (fun r1 r2 hr => Pm_some (KW_mo hr (by omega)))
    rw [upd_other (by omega), upd_other (by omega)]
  refine Pm_ite Iff.rfl (fun _ _ => ?_) (fun _ _ => ?_)
  · -- abs
    refine Pm_suc rfl (fun k => by rw [x_function]) (fun k => by rw [x_function]) (fun m3 _ => ?_)
    rw [p3, o3]
    refine Pm_ite Iff.rfl (fun w _ => ?_) (fun _ _ => Pm_ob (wk _ _ _) (fun r1 r2 hr => e4 _ _ _ r1 r2 rfl rfl hr))
    have w := (n_eq (q := 2) (by omega) (by decide)).mp w
    obtain ⟨p, hW⟩ := WhE_of hS1 hS2 hv1 hv2 hv w
    refine Pm_suc rfl (fun k => by rw [x_function]) (fun k => by rw [x_function]) (fun m4 _ => ?_)
    refine Pm_ob (k_signOf hS1 hS2 hW (by exact m2) (by exact o2)) (fun r1 r2 hr => ?_)
    rw [hr.1, hr.2]
    refine Pm_ite Iff.rfl (fun _ _ => ?_) (fun _ _ => ?_)
    · refine Pm_suc rfl (fun k => by rw [x_function]) (fun k => by rw [x_function]) (fun m5 _ => ?_)
      rw [m2, o2]
      exact e4 _ _ _ (nI v1, σ1) (nI v2, σ2) rfl rfl ⟨KQ_same hS1 hS2 ⟨fun _ => e2, fun _ => e1⟩ (HS_vb hS1 hv1) (HS_vb hS2 hv2) hv, hw⟩
    · exact Pm_ob (KW_wl (K' := 4004) (by omega) hw (fun k => wl_other k _ _ _) (fun k => wl_other k _ _ _) (k_other hS1 hS2 e1 e2 (by omega) (by omega) hW (by exact m2) (by exact o2))) (fun r1 r2 hr => e4 _ _ _ r1 r2 rfl rfl hr)
  refine Pm_ite Iff.rfl (fun _ _ => ?_) (fun _ _ => ?_)
  · -- arb
    refine Pm_suc rfl (fun k => by rw [x_function]) (fun k => by rw [x_function]) (fun m3 _ => ?_)
    rw [p3, o3]
    refine Pm_ite Iff.rfl (fun w _ => ?_) (fun _ _ => Pm_ob (wk _ _ _) (fun r1 r2 hr => e8 _ _ _ r1 r2 rfl rfl hr))
    have w := (n_eq (q := 6) (by omega) (by decide)).mp w
    obtain ⟨k, p, hO⟩ := OE_of hS1 hS2 (kdN_ge hS1 hv1 (by omega)) hv2 hv
    obtain ⟨_, _, _, _, k6, o6, o7, _, o9, o10, o11, o12, o13, o14, _, o16, o17⟩ := hO
    refine Pm_suc rfl (fun k => by rw [x_function]) (fun k => by rw [x_function]) (fun m4 _ => ?_)
    rw [m2, o2, n_add1, n_add1, n_cl (p := v1 + 1) (by omega), n_cl (p := v2 + 1) (by omega), o11, o12]
    refine Pm_chk (fun _ _ => ?_)
    refine Pm_ite Iff.rfl (fun _ _ => ?_) (fun z _ => ?_)
    · exact e8 _ _ _ (0, σ1) (0, σ2) rfl rfl ⟨KQ_same (a := 0) (b := 0) hS1 hS2 ⟨fun _ => e2, fun _ => e1⟩ (by decide) (by decide) (EVb_0 (by decide)), hw⟩
    have hp0 : 0 < p := by
      by_cases e : p = 0
      · exact absurd (by rw [e]; rfl) z
      · omega
    refine Pm_suc rfl (fun k => by rw [x_function]) (fun k => by rw [x_function]) (fun m5 _ => ?_)
    rw [m2, o2, show nI v1 + 4 = nI (v1 + 4) from n_add (q := 4) (by omega), show nI v2 + 4 = nI (v2 + 4) from n_add (q := 4) (by omega), n_cl (p := v1 + 4) (by omega), n_cl (p := v2 + 4) (by omega)]
    refine Pm_chk (fun _ _ => ?_)
    exact e8 _ _ _ (σ1.2.2 28 (v1 + 4), σ1) (σ2.2.2 28 (v2 + 4), σ2) rfl rfl ⟨KQ_VC hS1 hS2 ⟨fun _ => e2, fun _ => e1⟩ (o16 (by omega) 0 hp0), hw⟩
  refine Pm_ite Iff.rfl (fun _ _ => ?_) (fun _ _ => ?_)
  · refine Pm_suc rfl (fun k => by rw [x_function]) (fun k => by rw [x_function]) (fun m3 _ => ?_)
    refine Pm_ob (KW_wl (K' := 4004) (Nat.le_refl _) hw (fun k => wl_side k _ _ _) (fun k => wl_side k _ _ _) (k_side hS1 hS2 e1 e2 t1 t2 hf hr1 hr2 hv1 hv2 hv (c := 0) (by decide) (by exact m2) (by exact o2) rfl rfl (fun i hi => ?_))) (fun r1 r2 hr => Pm_some hr)
    rw [upd_other (by omega), upd_other (by omega), upd_other (by omega), upd_other (by omega)]
  refine Pm_ite Iff.rfl (fun _ _ => ?_) (fun _ _ => ?_)
  · refine Pm_suc rfl (fun k => by rw [x_function]) (fun k => by rw [x_function]) (fun m3 _ => ?_)
    refine Pm_ob (KW_wl (K' := 4004) (Nat.le_refl _) hw (fun k => wl_side k _ _ _) (fun k => wl_side k _ _ _) (k_side hS1 hS2 e1 e2 t1 t2 hf hr1 hr2 hv1 hv2 hv (c := 1) (by decide) (by exact m2) (by exact o2) rfl rfl (fun i hi => ?_))) (fun r1 r2 hr => Pm_some hr)
    rw [upd_other (by omega), upd_other (by omega), upd_other (by omega), upd_other (by omega)]
  refine Pm_ite Iff.rfl (fun _ _ => ?_) (fun _ _ => ?_)
  · refine Pm_suc rfl (fun k => by rw [x_function]) (fun k => by rw [x_function]) (fun m3 _ => ?_)
    refine Pm_ob (KW_wl (K' := 4004) (Nat.le_refl _) hw (fun k => wl_powerSet k _ _ _) (fun k => wl_powerSet k _ _ _) (k_powerSet hS1 hS2 e1 e2 t1 t2 hf hr1 hr2 hv1 hv2 hv (by exact m2) (by exact o2) (fun i hi => ?_))) (fun r1 r2 hr => Pm_some hr)
    rw [upd_other (by omega), upd_other (by omega)]
  refine Pm_ite Iff.rfl (fun _ _ => ?_) (fun _ _ => ?_)
  · refine Pm_suc rfl (fun k => by rw [x_function]) (fun k => by rw [x_function]) (fun m3 _ => ?_)
    exact Pm_ob (KW_wl (K' := 4004) (Nat.le_refl _) hw (fun k => wl_typeOf k _ _ _) (fun k => wl_typeOf k _ _ _) (k_typeOf hS1 hS2 e1 e2 hr1 hr2 hv1 hv2 hv hT (by exact m2) (by exact o2))) (fun r1 r2 hr => Pm_some hr)
  refine Pm_ite Iff.rfl (fun _ _ => ?_) (fun _ _ => ?_)
  · -- str
    refine Pm_suc rfl (fun k => by rw [x_function]) (fun k => by rw [x_function]) (fun m3 _ => ?_)
    show Pm m3 (fun k => x_function k 14 M1 (mSc σ1 93 0)) (fun k => x_function k 14 M2 (mSc σ2 93 0)) _
    have hO : OtE (mSc σ1 93 0) (mSc σ2 93 0) := ⟨0, by omega, rfl, rfl, fun i hi => absurd hi (Nat.not_lt_zero i)⟩
    have hT1 : HS g1 l1 B1 h1 (mSc σ1 93 0) := HS_c hS1 rfl rfl rfl
    have hT2 : HS g2 l2 B2 h2 (mSc σ2 93 0) := HS_c hS2 rfl rfl rfl
    have e1' : (mSc σ1 93 0).1 56 = 0 := e1
    have e2' : (mSc σ2 93 0).1 56 = 0 := e2
    have hv' : EVb ((mSc σ1 93 0).2.2 28) ((mSc σ2 93 0).2.2 28) v1 v2 := hv
    have hw' : (mSc σ1 93 0).2.1 96 = (mSc σ2 93 0).2.1 96 := hw
    generalize mSc σ1 93 0 = ρ1 at hO hT1 e1' hv' hw'
    generalize mSc σ2 93 0 = ρ2 at hO hT2 e2' hv' hw'
    refine Pm_suc rfl (fun k => by rw [x_function]) (fun k => by rw [x_function]) (fun m4 _ => ?_)
    refine Pm_ob (Pm_wl (fun k => wl_print k _ _ _) (fun k => wl_print k _ _ _) (k_printV hT1 hT2 hv1 hv2 hv' hO ⟨fun i hi => ?_, by exact m2, by exact o2⟩)) (fun s1 s2 hs => ?_)
    · by_cases c : i = 2
      · rw [c]; rfl
      · rw [upd_other c, upd_other c, upd_other (by omega), upd_other (by omega)]
    obtain ⟨⟨⟨w, w1, w2, w3, w4⟩, p1, p2⟩, q1, q2⟩ := hs
    rw [w2, w3]
    exact Pm_ob (KW_wl (σ1 := s1.2) (σ2 := s2.2) (K' := 4004) (Nat.le_refl _) (by rw [q1, q2]; exact hw') (fun k => wl_stringOf__48 k _ _ _) (fun k => wl_stringOf__48 k _ _ _) (k_stringOf48 (f1 := 0) (f2 := 0) (w := w) (PrF_HS p1 hT1) (PrF_HS p2 hT2) ((p1.1 56 (by decide)).trans e1') ((p2.1 56 (by decide)).trans e2') hr1 hr2 (by omega) (fun _ => by omega) (fun _ => by omega) (fun i hi => by rw [Nat.zero_add]; exact w4 i hi) rfl rfl rfl rfl)) (fun r1 r2 hr => Pm_some hr)
  refine Pm_ite Iff.rfl (fun _ _ => ?_) (fun _ _ => ?_)
  · refine Pm_suc rfl (fun k => by rw [x_function]) (fun k => by rw [x_function]) (fun m3 _ => ?_)
    exact Pm_ob (KW_wl (K' := 4004) (by omega) hw (fun k => wl_character k _ _ _) (fun k => wl_character k _ _ _) (k_character hS1 hS2 e1 e2 (by omega) (by omega) hv1 hv2 hv (by exact m2) (by exact o2))) (fun r1 r2 hr => Pm_some hr)
  refine Pm_ite Iff.rfl (fun _ _ => ?_) (fun _ _ => ?_)
  · refine Pm_suc rfl (fun k => by rw [x_function]) (fun k => by rw [x_function]) (fun m3 _ => ?_)
    exact Pm_ob (KW_wl (K' := 4004) (by omega) hw (fun k => wl_codeOf k _ _ _) (fun k => wl_codeOf k _ _ _) (k_codeOf hS1 hS2 e1 e2 (by omega) (by omega) hv1 hv2 hv (by exact m2) (by exact o2))) (fun r1 r2 hr => Pm_some hr)
  refine Pm_ite Iff.rfl (fun _ _ => b18 m1) (fun _ _ => ?_)
  refine Pm_ite Iff.rfl (fun _ _ => b18 m1) (fun _ _ => ?_)
  refine Pm_ite Iff.rfl (fun _ _ => ?_) (fun _ _ => b18 m1)
  refine Pm_suc rfl (fun k => by rw [x_function]) (fun k => by rw [x_function]) (fun m3 _ => ?_)
  refine Pm_ob (KW_wl (K' := 4004) (Nat.le_refl _) hw (fun k => wl_reversed k _ _ _) (fun k => wl_reversed k _ _ _) (k_reversed hS1 hS2 e1 e2 t1 t2 hf hr1 hr2 hv1 hv2 hv (by exact m2) (by exact o2) (fun i hi => ?_))) (fun r1 r2 hr => Pm_some hr)
  rw [upd_other (by omega), upd_other (by omega)]
end KFU
end JnS187
section JnS188
/-! Two runs side by side (reference): a place is written; other pairs. -/
section KPL
variable {g1 g2 : Nat → Prop} {l1 l2 : List Nat} {B1 h1 B2 h2 n : Nat} {σ1 σ2 : MS}
theorem VC_ev (hS1 : HS g1 l1 B1 h1 σ1) (hS2 : HS g2 l2 B2 h2 σ2) {a b : Nat} (ha : a < 3 ∨ g1 a) (hb : b < 3 ∨ g2 b) (hv : EVb (σ1.2.2 28) (σ2.2.2 28) a b) : VC g1 g2 (σ1.2.2 28) (σ2.2.2 28) (nI a) (nI b) := ⟨a, b, rfl, ha, rfl, hb, hv, HS_vb hS1 ha, HS_vb hS2 hb⟩
theorem VC_00 {H1 H2 : Nat → Int32} : VC g1 g2 H1 H2 0 0 := ⟨0, 0, rfl, Or.inl (by decide), rfl, Or.inl (by decide), EVb_0 (by decide), by decide, by decide⟩
def PPl (v p q f j : Nat) (x : Int32) (N : Nat → Int32) : Prop := N 1 = nI v ∧ N 2 = nI p ∧ N 3 = x ∧ N 4 = nI q ∧ N 5 = nI f ∧ N 6 = nI (j + 1)
theorem k_putPlace {f v1 v2 q p : Nat} {x y : Int32} (hS1 : HS g1 l1 B1 h1 σ1) (hS2 : HS g2 l2 B2 h2 σ2) (e1 : σ1.1 56 = 0) (e2 : σ2.1 56 = 0) (t1 : σ1.1 59 = nI f) (t2 : σ2.1 59 = nI f) (hf : f ≤ 177000) (hr1 : h1 + 4004 ≤ B1 + 870000) (hr2 : h2 + 4004 ≤ B2 + 870000) (hO : OE g1 g2 (σ1.2.2 28) (σ2.2.2 28) v1 v2 5 q) (hp : p ≤ 100001) (hx : VC g1 g2 (σ1.2.2 28) (σ2.2.2 28) x y) {L1 L2 : Nat → Int32} (d1 : L1 1 = nI v1) (f1 : L2 1 = nI v2) (d2 : L1 2 = nI p) (f2 : L2 2 = nI p) (d3 : L1 3 = x) (f3 : L2 3 = y) : Pm n (fun k => x_putPlace k 0 L1 σ1) (fun k => x_putPlace k 0 L2 σ2) (KQ h1 h2 4004) := by
  obtain ⟨gv1, gv2, _, _, k6, o6, o7, _, o9, o10, o11, o12, o13, o14, ov, o16, o17⟩ := hO
  have ca := o16 (by omega)
  have b3 : p ≤ 2000 → ∀ (m j : Nat) (N1 N2 : Nat → Int32) (τ1 τ2 : MS), j ≤ 3996 → PPl v1 p q f j x N1 → PPl v2 p q f j y N2 → KPu g1 g2 f j σ1 σ2 τ1 τ2 → Pm m (fun k => x_putPlace k 3 N1 τ1) (fun k => x_putPlace k 3 N2 τ2) (KQ h1 h2 4004) := by
    intro hp2 m
    induction m using Nat.strongRecOn with
    | ind m ih =>
    intro j N1 N2 τ1 τ2 hj hN1 hN2 hK
    have a28 : τ1.2.2 28 = σ1.2.2 28 := hK.1.2.1 28 (by decide)
    have b28 : τ2.2.2 28 = σ2.2.2 28 := hK.2.1.2.1 28 (by decide)
    have c7 : ∀ (m' : Nat) (M1 M2 : Nat → Int32), m' < m → j < 3996 → PPl v1 p q f j x M1 → PPl v2 p q f j y M2 → VC g1 g2 (σ1.2.2 28) (σ2.2.2 28) (M1 100) (M2 100) → Pm m' (fun k => x_putPlace k 7 M1 τ1) (fun k => x_putPlace k 7 M2 τ2) (KQ h1 h2 4004) := fun m' M1 M2 hm' hj' hM1 hM2 hv => by
      refine Pm_suc rfl (fun k => by rw [x_putPlace]) (fun k => by rw [x_putPlace]) (fun k2 hk2 => ?_)
      refine Pm_ob (k_push hK (by omega) hv rfl rfl) (fun r1 r2 hr => ?_)
      rw [hM1.2.2.2.2.2, hM2.2.2.2.2.2, n_add1]
      exact ih k2 (by omega) (j + 1) _ _ _ _ (by omega) ⟨hM1.1, hM1.2.1, hM1.2.2.1, hM1.2.2.2.1, hM1.2.2.2.2.1, rfl⟩ ⟨hM2.1, hM2.2.1, hM2.2.2.1, hM2.2.2.2.1, hM2.2.2.2.2.1, rfl⟩ hr
    have c4 : ∀ m', m' < m → j < 3996 → Pm m' (fun k => x_putPlace k 4 N1 τ1) (fun k => x_putPlace k 4 N2 τ2) (KQ h1 h2 4004) := fun m' hm' hj' => by
      refine Pm_suc rfl (fun k => by rw [x_putPlace]) (fun k => by rw [x_putPlace]) (fun k2 hk2 => ?_)
      rw [hN1.2.1, hN2.2.1, hN1.2.2.2.2.2, hN2.2.2.2.2.2]
      refine Pm_ite Iff.rfl (fun _ _ => ?_) (fun _ _ => ?_)
      · refine c7 k2 _ _ (by omega) hj' ⟨hN1.1, hN1.2.1, hN1.2.2.1, hN1.2.2.2.1, hN1.2.2.2.2.1, hN1.2.2.2.2.2⟩ ⟨hN2.1, hN2.2.1, hN2.2.2.1, hN2.2.2.2.1, hN2.2.2.2.2.1, hN2.2.2.2.2.2⟩ ?_
        show VC g1 g2 (σ1.2.2 28) (σ2.2.2 28) (N1 3) (N2 3)
        rw [hN1.2.2.1, hN2.2.2.1]; exact hx
      · refine Pm_suc rfl (fun k => by rw [x_putPlace]) (fun k => by rw [x_putPlace]) (fun k3 hk3 => ?_)
        rw [hN1.1, hN2.1, hN1.2.2.2.1, hN2.2.2.2.1, hN1.2.2.2.2.2, hN2.2.2.2.2.2, show nI v1 + 3 = nI (v1 + 3) from n_add (q := 3) (by omega), show nI v2 + 3 = nI (v2 + 3) from n_add (q := 3) (by omega), n_add (p := v1 + 3) (by omega), n_add (p := v2 + 3) (by omega), n_cl (p := v1 + 3 + (j + 1)) (by omega), n_cl (p := v2 + 3 + (j + 1)) (by omega), a28, b28]
        refine Pm_ite Iff.rfl (fun _ _ => ?_) (fun z _ => ?_)
        · refine Pm_suc rfl (fun k => by rw [x_putPlace]) (fun k => by rw [x_putPlace]) (fun k4 hk4 => ?_)
          exact c7 k4 _ _ (by omega) hj' ⟨hN1.1, hN1.2.1, hN1.2.2.1, hN1.2.2.2.1, hN1.2.2.2.2.1, hN1.2.2.2.2.2⟩ ⟨hN2.1, hN2.2.1, hN2.2.2.1, hN2.2.2.2.1, hN2.2.2.2.2.1, hN2.2.2.2.2.2⟩ VC_00
        · have hjq : j < q := by
            by_cases c : j < q
            · exact c
            · exact absurd ((n_lt (by omega) (by omega)).mpr (by omega)) z
          refine Pm_chk (fun _ _ => ?_)
          refine c7 k3 _ _ (by omega) hj' ⟨hN1.1, hN1.2.1, hN1.2.2.1, hN1.2.2.2.1, hN1.2.2.2.2.1, hN1.2.2.2.2.2⟩ ⟨hN2.1, hN2.2.1, hN2.2.2.1, hN2.2.2.2.1, hN2.2.2.2.2.1, hN2.2.2.2.2.2⟩ ?_
          show VC g1 g2 (σ1.2.2 28) (σ2.2.2 28) (σ1.2.2 28 (v1 + 3 + (j + 1))) (σ2.2.2 28 (v2 + 3 + (j + 1)))
          rw [show v1 + 3 + (j + 1) = v1 + 4 + j by omega, show v2 + 3 + (j + 1) = v2 + 4 + j by omega]
          exact ca j hjq
    refine Pm_suc rfl (fun k => by rw [x_putPlace]) (fun k => by rw [x_putPlace]) (fun k1 hk1 => ?_)
    rw [hN1.2.1, hN2.2.1, hN1.2.2.2.1, hN2.2.2.2.1, hN1.2.2.2.2.2, hN2.2.2.2.2.2]
    refine Pm_ite Iff.rfl (fun z _ => ?_) (fun _ _ => ?_)
    · have z := (n_le (by omega) (by omega)).mp z
      exact c4 k1 (by omega) (by omega)
    refine Pm_ite Iff.rfl (fun _ _ => ?_) (fun z _ => ?_)
    · refine Pm_suc rfl (fun k => by rw [x_putPlace]) (fun k => by rw [x_putPlace]) (fun k2 hk2 => ?_)
      exact Pm_ob (k_tupP hK hS1 hS2 e1 e2 (by omega) (by omega) (by omega) (by exact hN1.2.2.2.2.1) (by exact hN2.2.2.2.2.1)) (fun r1 r2 hr => Pm_some (KQ_mo hr (by omega)))
    · have hjp : j + 1 ≤ p := by
        by_cases c : p < j + 1
        · exact absurd ((n_lt (by omega) (by omega)).mpr c) z
        · omega
      exact c4 k1 (by omega) (by omega)
  have c1 : ∀ (m : Nat) (N1 N2 : Nat → Int32), N1 1 = nI v1 → N2 1 = nI v2 → N1 2 = nI p → N2 2 = nI p → N1 3 = x → N2 3 = y → N1 4 = nI q → N2 4 = nI q → Pm m (fun k => x_putPlace k 1 N1 σ1) (fun k => x_putPlace k 1 N2 σ2) (KQ h1 h2 4004) := fun m N1 N2 a1 b1 a2 b2 a3 b3' a4 b4 => by
    refine Pm_suc rfl (fun k => by rw [x_putPlace]) (fun k => by rw [x_putPlace]) (fun k1 hk1 => ?_)
    rw [a2, b2]
    refine Pm_ite Iff.rfl (fun z _ => ?_) (fun _ _ => ?_)
    · have z := (n_le (q := 2000) (by omega) (by decide)).mp z
      refine Pm_suc rfl (fun k => by rw [x_putPlace]) (fun k => by rw [x_putPlace]) (fun k2 hk2 => ?_)
      rw [t1, t2]
      exact b3 z k2 0 _ _ _ _ (by omega) ⟨a1, a2, a3, a4, rfl, rfl⟩ ⟨b1, b2, b3', b4, rfl, rfl⟩ (KPu_0 t1 t2)
    · refine Pm_ob (k_fail (K := 4004) (e := 5) (by decide) hS1 hS2 rfl rfl) (fun r1 r2 hr => ?_)
      rw [hr.1, hr.2.1]
      exact Pm_some hr.2.2
  refine Pm_suc rfl (fun k => by rw [x_putPlace]) (fun k => by rw [x_putPlace]) (fun m1 _ => ?_)
  rw [d1, f1, d2, f2, d3, f3, n_add1, n_add1, n_cl (p := v1 + 1) (by omega), n_cl (p := v2 + 1) (by omega), o11, o12]
  refine Pm_chk (fun _ _ => ?_)
  refine Pm_ite Iff.rfl (fun _ _ => c1 m1 _ _ d1 f1 d2 f2 d3 f3 rfl rfl) (fun _ _ => ?_)
  refine Pm_ite (VC_0 hx) (fun _ _ => ?_) (fun _ _ => c1 m1 _ _ d1 f1 d2 f2 d3 f3 rfl rfl)
  exact Pm_some (KQ_VC hS1 hS2 ⟨fun _ => e2, fun _ => e1⟩ (VC_ev hS1 hS2 (Or.inr gv1) (Or.inr gv2) ov))
theorem k_pushOthers {f v1 v2 q a1 a2 : Nat} (hS1 : HS g1 l1 B1 h1 σ1) (hS2 : HS g2 l2 B2 h2 σ2) (t1 : σ1.1 59 = nI f) (t2 : σ2.1 59 = nI f) (hf : f ≤ 177000) (hO : OE g1 g2 (σ1.2.2 28) (σ2.2.2 28) v1 v2 6 q) (hM : MpE g1 g2 (σ1.2.2 28) (σ2.2.2 28) v1 v2 q) (ha1 : a1 < 3 ∨ g1 a1) (ha2 : a2 < 3 ∨ g2 a2) (va : EVb (σ1.2.2 28) (σ2.2.2 28) a1 a2) {L1 L2 : Nat → Int32} (d1 : L1 1 = nI v1) (f1 : L2 1 = nI v2) (d2 : L1 2 = nI a1) (f2 : L2 2 = nI a2) : Pm n (fun k => x_pushOthers k 0 L1 σ1) (fun k => x_pushOthers k 0 L2 σ2) (fun r1 r2 => ∃ w, w ≤ q ∧ KPu g1 g2 f w σ1 σ2 r1.2 r2.2) := by
  obtain ⟨gv1, gv2, _, _, k6, o6, o7, _, o9, o10, o11, o12, o13, o14, ov, o16, o17⟩ := hO
  have b1 : ∀ (m i w : Nat) (N1 N2 : Nat → Int32) (τ1 τ2 : MS), i ≤ q → w ≤ i → N1 1 = nI v1 → N2 1 = nI v2 → N1 2 = nI a1 → N2 2 = nI a2 → N1 3 = nI i → N2 3 = nI i → KPu g1 g2 f w σ1 σ2 τ1 τ2 → Pm m (fun k => x_pushOthers k 1 N1 τ1) (fun k => x_pushOthers k 1 N2 τ2) (fun r1 r2 => ∃ w, w ≤ q ∧ KPu g1 g2 f w σ1 σ2 r1.2 r2.2) := by
    intro m
    induction m using Nat.strongRecOn with
    | ind m ih =>
    intro i w N1 N2 τ1 τ2 hi hw x1 y1 x2 y2 x3 y3 hK
    have a28 : τ1.2.2 28 = σ1.2.2 28 := hK.1.2.1 28 (by decide)
    have b28 : τ2.2.2 28 = σ2.2.2 28 := hK.2.1.2.1 28 (by decide)
    refine Pm_suc rfl (fun k => by rw [x_pushOthers]) (fun k => by rw [x_pushOthers]) (fun k1 hk1 => ?_)
    rw [x1, y1, x2, y2, x3, y3, n_add1 v1, n_add1 v2, n_cl (p := v1 + 1) (by omega), n_cl (p := v2 + 1) (by omega), a28, b28, o11, o12]
    refine Pm_chk (fun _ _ => ?_)
    refine Pm_ite Iff.rfl (fun _ _ => ?_) (fun z _ => ?_)
    · refine Pm_suc rfl (fun k => by rw [x_pushOthers]) (fun k => by rw [x_pushOthers]) (fun k2 hk2 => ?_)
      exact Pm_some ⟨w, by omega, hK⟩
    have hiq : i < q := by
      by_cases c : i < q
      · exact c
      · exact absurd ((n_le (by omega) (by omega)).mpr (by omega)) z
    obtain ⟨u, v, u1, u2, u3, u4, u5, u6, u7⟩ := hM i hiq
    rw [show nI v1 + 4 = nI (v1 + 4) from n_add (q := 4) (by omega), show nI v2 + 4 = nI (v2 + 4) from n_add (q := 4) (by omega), n_add (p := v1 + 4) (by omega), n_add (p := v2 + 4) (by omega), n_cl (p := v1 + 4 + i) (by omega), n_cl (p := v2 + 4 + i) (by omega), u1, u2, show nI u + 4 = nI (u + 4) from n_add (q := 4) (by omega), show nI v + 4 = nI (v + 4) from n_add (q := 4) (by omega), n_cl (p := u + 4) (by omega), n_cl (p := v + 4) (by omega)]
    refine Pm_chk (fun _ _ => ?_)
    refine Pm_chk (fun _ _ => ?_)
    obtain ⟨c, d, c1, c2, c3, c4, c5, c6, c7⟩ := u6
    rw [c1, c3]
    have b2 : ∀ (m' w' : Nat) (M1 M2 : Nat → Int32) (υ1 υ2 : MS), m' < m → w' ≤ i + 1 → M1 1 = nI v1 → M2 1 = nI v2 → M1 2 = nI a1 → M2 2 = nI a2 → M1 3 = nI i → M2 3 = nI i → KPu g1 g2 f w' σ1 σ2 υ1 υ2 → Pm m' (fun k => x_pushOthers k 2 M1 υ1) (fun k => x_pushOthers k 2 M2 υ2) (fun r1 r2 => ∃ w, w ≤ q ∧ KPu g1 g2 f w σ1 σ2 r1.2 r2.2) := fun m' w' M1 M2 υ1 υ2 hm' hw' s1 r1 s2 r2 s3 r3 hK' => by
      refine Pm_suc rfl (fun k => by rw [x_pushOthers]) (fun k => by rw [x_pushOthers]) (fun k2 hk2 => ?_)
      exact ih k2 (by omega) (i + 1) w' _ _ _ _ (by omega) hw' s1 r1 s2 r2 (by show M1 3 + 1 = _; rw [s3, n_add1]) (by show M2 3 + 1 = _; rw [r3, n_add1]) hK'
    refine Pm_ob (k_compare (PuS_HS hK.1 hS1) (PuS_HS hK.2.1 hS2) c2 ha1 c4 ha2 (by rw [a28, b28]; exact c5) (by rw [a28, b28]; exact va) rfl rfl rfl rfl) (fun r1 r2 hr => ?_)
    rw [hr.1, hr.2.1, hr.2.2]
    refine Pm_ite Iff.rfl (fun _ _ => b2 k1 w _ _ _ _ (by omega) (by omega) x1 y1 x2 y2 x3 y3 hK) (fun _ _ => ?_)
    exact Pm_ob (k_push hK (by omega) u5 rfl rfl) (fun s1 s2 hs => b2 k1 (w + 1) _ _ _ _ (by omega) (by omega) x1 y1 x2 y2 x3 y3 hs)
  refine Pm_suc rfl (fun k => by rw [x_pushOthers]) (fun k => by rw [x_pushOthers]) (fun m1 _ => ?_)
  exact b1 m1 0 0 _ _ _ _ (Nat.zero_le _) (Nat.le_refl _) d1 f1 d2 f2 rfl rfl (KPu_0 t1 t2)
end KPL
end JnS188
