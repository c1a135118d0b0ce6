/-! Two runs side by side (reference): what is drawn by the seed. -/
section KDW
variable {g1 g2 : Nat → Prop} {l1 l2 : List Nat} {B1 h1 B2 h2 n : Nat} {σ1 σ2 : MS}
theorem Pm_wl {w1 w2 : Nat → Int64} {x1 x2 : Nat → Option (Int32 × MS)} {Q : Int32 × MS → Int32 × MS → Prop} (t1 : ∀ k, Wk (x1 k) w1) (t2 : ∀ k, Wk (x2 k) w2) (t : Pm n x1 x2 Q) : Pm n x1 x2 (fun r1 r2 => Q r1 r2 ∧ r1.2.2.1 = w1 ∧ r2.2.2.1 = w2) := fun k hk r1 r2 e1 e2 => ⟨t k hk r1 r2 e1 e2, t1 k r1 e1, t2 k r2 e2⟩
theorem Pm_none {a : Nat → Option (Int32 × MS)} {Q : Int32 × MS → Int32 × MS → Prop} : Pm n (fun _ => none) a Q := fun k _ r1 r2 e _ => by cases e
/-- alike, and the seeds too -/
def KW (h1 h2 K : Nat) (r1 r2 : Int32 × MS) : Prop := KQ h1 h2 K r1 r2 ∧ r1.2.2.1 96 = r2.2.2.1 96
theorem k_draw {L1 L2 : Nat → Int32} (hL : L1 1 = L2 1) (hw : σ1.2.1 96 = σ2.2.1 96) : Pm n (fun k => x_draw k 0 L1 σ1) (fun k => x_draw k 0 L2 σ2) (fun r1 r2 => r1.1 = r2.1 ∧ ∃ w1 w2 : Nat → Int64, r1.2 = (σ1.1, w1, σ1.2.2) ∧ r2.2 = (σ2.1, w2, σ2.2.2) ∧ w1 96 = w2 96) := by
  refine Pm_suc rfl (fun k => by rw [x_draw]) (fun k => by rw [x_draw]) (fun m1 _ => ?_)
  have e : updW σ1.2.1 96 (((σ1.2.1 96) * 6364136223846793005) + 1442695040888963407) 96 = updW σ2.2.1 96 (((σ2.2.1 96) * 6364136223846793005) + 1442695040888963407) 96 := by
    unfold updW; rw [if_pos rfl, if_pos rfl, hw]
  generalize updW σ1.2.1 96 (((σ1.2.1 96) * 6364136223846793005) + 1442695040888963407) = w1 at e ⊢
  generalize updW σ2.2.1 96 (((σ2.2.1 96) * 6364136223846793005) + 1442695040888963407) = w2 at e ⊢
  refine Pm_suc rfl (fun k => by rw [x_draw]) (fun k => by rw [x_draw]) (fun m2 _ => ?_)
  dsimp only
  rw [hL, e]
  exact Pm_ite Iff.rfl (fun _ _ => Pm_none) (fun _ _ => Pm_some ⟨rfl, w1, w2, rfl, rfl, e⟩)
theorem k_drawn {v1 v2 : Nat} (hS1 : HS g1 l1 B1 h1 σ1) (hS2 : HS g2 l2 B2 h2 σ2) (e1 : σ1.1 56 = 0) (e2 : σ2.1 56 = 0) (hr1 : h1 + 70 ≤ B1 + 870000) (hr2 : h2 + 70 ≤ B2 + 870000) (hv1 : v1 < 3 ∨ g1 v1) (hv2 : v2 < 3 ∨ g2 v2) (hv : EVb (σ1.2.2 28) (σ2.2.2 28) v1 v2) (hw : σ1.2.1 96 = σ2.2.1 96) {L1 L2 : Nat → Int32} (d1 : L1 1 = nI v1) (f1 : L2 1 = nI v2) (hL : LEn 2 L1 L2) : Pm n (fun k => x_drawn k 0 L1 σ1) (fun k => x_drawn k 0 L2 σ2) (KW h1 h2 70) := by
  have kv := kdN_6 hS1 hv1
  have c8 : ∀ (m : Nat) (N1 N2 : Nat → Int32), LEn 2 N1 N2 → Pm m (fun k => x_drawn k 8 N1 σ1) (fun k => x_drawn k 8 N2 σ2) (KW h1 h2 70) := fun m N1 N2 hN => by
    refine Pm_suc rfl (fun k => by rw [x_drawn]) (fun k => by rw [x_drawn]) (fun m1 _ => ?_)
    refine Pm_ob (k_draw (by exact hN 100 (by omega)) hw) (fun r1 r2 hr => ?_)
    obtain ⟨r0, w1, w2, q1, q2, q3⟩ := hr
    rw [← r0, q1, q2, hN 102 (by omega)]
    refine Pm_ob (Pm_wl (fun k => wl_small k _ _ _) (fun k => wl_small k _ _ _) (k_small (σ1 := (σ1.1, w1, σ1.2.2)) (σ2 := (σ2.1, w2, σ2.2.2)) (HS_c hS1 rfl rfl rfl) (HS_c hS2 rfl rfl rfl) e1 e2 hr1 hr2 (fun i hi => rfl))) (fun s1 s2 hs => Pm_some ⟨hs.1, ?_⟩)
    show s1.2.2.1 96 = s2.2.2.1 96
    rw [hs.2.1, hs.2.2]
    exact q3
  have c5 : ∀ (m : Nat) (N1 N2 : Nat → Int32), Pm m (fun k => x_drawn k 5 N1 σ1) (fun k => x_drawn k 5 N2 σ2) (KW h1 h2 70) := fun m N1 N2 => by
    refine Pm_suc rfl (fun k => by rw [x_drawn]) (fun k => by rw [x_drawn]) (fun m1 _ => ?_)
    refine Pm_ob (k_fail (K := 70) (e := 4) (by decide) hS1 hS2 rfl rfl) (fun r1 r2 hr => ?_)
    rw [hr.1, hr.2.1]
    exact Pm_some ⟨hr.2.2, hw⟩
  have c6 : ∀ (m : Nat) (N1 N2 : Nat → Int32), LEn 2 N1 N2 → Pm m (fun k => x_drawn k 6 N1 σ1) (fun k => x_drawn k 6 N2 σ2) (KW h1 h2 70) := fun m N1 N2 hN => by
    refine Pm_suc rfl (fun k => by rw [x_drawn]) (fun k => by rw [x_drawn]) (fun m1 _ => ?_)
    refine Pm_ite (by rw [hN 4 (by omega)]) (fun _ _ => ?_) (fun _ _ => c8 m1 _ _ (LEn_u (LEn_u hN rfl) rfl))
    have hM : LEn 2 (upd N1 101 1) (upd N2 101 1) := LEn_u hN rfl
    refine Pm_suc rfl (fun k => by rw [x_drawn]) (fun k => by rw [x_drawn]) (fun m2 _ => ?_)
    exact c8 m2 _ _ (LEn_u (LEn_u hM (hM 3 (by omega))) (hM 101 (by omega)))
  have c4 : ∀ (m : Nat) (N1 N2 : Nat → Int32), LEn 2 N1 N2 → Pm m (fun k => x_drawn k 4 N1 σ1) (fun k => x_drawn k 4 N2 σ2) (KW h1 h2 70) := fun m N1 N2 hN => by
    have hM := LEn_u (j := 4) hN (hN 100 (by omega))
    refine Pm_suc rfl (fun k => by rw [x_drawn]) (fun k => by rw [x_drawn]) (fun m1 _ => ?_)
    refine Pm_ite (by rw [hN 3 (by omega)]) (fun _ _ => c5 m1 _ _) (fun _ _ => ?_)
    refine Pm_ite (by rw [hN 100 (by omega)]) (fun _ _ => ?_) (fun _ _ => c6 m1 _ _ hM)
    exact Pm_ite (by rw [hN 3 (by omega)]) (fun _ _ => c5 m1 _ _) (fun _ _ => c6 m1 _ _ hM)
  have c3 : ∀ (m : Nat) (N1 N2 : Nat → Int32), LEn 2 N1 N2 → Pm m (fun k => x_drawn k 3 N1 σ1) (fun k => x_drawn k 3 N2 σ2) (KW h1 h2 70) := fun m N1 N2 hN => by
    refine Pm_suc rfl (fun k => by rw [x_drawn]) (fun k => by rw [x_drawn]) (fun m1 _ => ?_)
    exact c4 m1 _ _ (LEn_u hN rfl)
  have c2 : kdN (σ1.2.2 28) v1 = 2 → ∀ (m : Nat) (N1 N2 : Nat → Int32), LEn 2 N1 N2 → N1 1 = nI v1 → N2 1 = nI v2 → Pm m (fun k => x_drawn k 2 N1 σ1) (fun k => x_drawn k 2 N2 σ2) (KW h1 h2 70) := fun hk m N1 N2 hN x1 y1 => by
    obtain ⟨k, p, hO⟩ := OE_of hS1 hS2 (kdN_ge hS1 hv1 (by omega)) hv2 hv
    obtain ⟨_, _, _, _, _, o6, o7, _, _, _, o11, o12, o13, o14, _, _, o17⟩ := hO
    obtain ⟨q, hA⟩ := WhE_of hS1 hS2 hv1 hv2 hv hk
    have ca := o17 (by omega)
    have hM : ∀ x y : Int32, x = y → LEn 2 (upd (upd N1 3 (N1 100)) 100 x) (upd (upd N2 3 (N2 100)) 100 y) := fun x y e => LEn_u (LEn_u hN (hN 100 (by omega))) e
    have hM' := LEn_u (j := 3) hN (hN 100 (by omega))
    refine Pm_suc rfl (fun k => by rw [x_drawn]) (fun k => by rw [x_drawn]) (fun m1 _ => ?_)
    rw [x1, y1, n_add1, n_add1, show nI v1 + 5 = nI (v1 + 5) from n_add (q := 5) (by omega), show nI v2 + 5 = nI (v2 + 5) from n_add (q := 5) (by omega), show nI v1 + 6 = nI (v1 + 6) from n_add (q := 6) (by omega), show nI v2 + 6 = nI (v2 + 6) from n_add (q := 6) (by omega), n_cl (p := v1 + 1) (by omega), n_cl (p := v2 + 1) (by omega), o11, o12]
    refine Pm_chk (fun _ _ => ?_)
    refine Pm_ite Iff.rfl (fun z _ => ?_) (fun _ _ => c3 m1 _ _ hM')
    have z := (n_eq (q := 3) (by omega) (by decide)).mp z
    have u1 : σ2.2.2 28 (v2 + 5) = σ1.2.2 28 (v1 + 5) := ca 1 (by omega)
    have u2 : σ2.2.2 28 (v2 + 6) = σ1.2.2 28 (v1 + 6) := ca 2 (by omega)
    refine Pm_ob (k_signOf hS1 hS2 hA rfl rfl) (fun r1 r2 hr => ?_)
    rw [hr.1, hr.2]
    refine Pm_ite Iff.rfl (fun _ _ => c3 m1 _ _ hM') (fun _ _ => ?_)
    rw [n_cl (p := v1 + 5) (by omega), n_cl (p := v2 + 5) (by omega), n_cl (p := v1 + 6) (by omega), n_cl (p := v2 + 6) (by omega)]
    refine Pm_chk (fun _ _ => ?_)
    refine Pm_ite (by show σ1.2.2 28 (v1 + 5) = 65535 ↔ σ2.2.2 28 (v2 + 5) = 65535; rw [u1]) (fun _ _ => ?_) (fun _ _ => c3 m1 _ _ hM')
    refine Pm_chk (fun _ _ => ?_)
    exact Pm_ite (by show σ1.2.2 28 (v1 + 6) = 32767 ↔ σ2.2.2 28 (v2 + 6) = 32767; rw [u2]) (fun _ _ => c4 m1 _ _ (hM 1 1 rfl)) (fun _ _ => c3 m1 _ _ hM')
  have c12 : ∀ (m : Nat) (N1 N2 : Nat → Int32) (r1 r2 : Int32 × MS), N1 100 = r1.1 → N2 100 = r2.1 → KW h1 h2 70 r1 r2 → Pm m (fun k => x_drawn k 12 N1 r1.2) (fun k => x_drawn k 12 N2 r2.2) (KW h1 h2 70) := fun m N1 N2 r1 r2 x1 x2 hr => by
    refine Pm_suc rfl (fun k => by rw [x_drawn]) (fun k => by rw [x_drawn]) (fun m1 _ => ?_)
    rw [x1, x2]
    exact Pm_some hr
  have c10 : 4 ≤ kdN (σ1.2.2 28) v1 → ∀ (m : Nat) (N1 N2 : Nat → Int32), N1 1 = nI v1 → N2 1 = nI v2 → Pm m (fun k => x_drawn k 10 N1 σ1) (fun k => x_drawn k 10 N2 σ2) (KW h1 h2 70) := by
    intro h4 m N1 N2 x1 y1
    obtain ⟨k, p, hO⟩ := OE_of hS1 hS2 (kdN_ge hS1 hv1 (by omega)) hv2 hv
    have hO' := hO
    obtain ⟨_, _, _, _, _, o6, o7, _, _, _, o11, o12, o13, o14, _, _, _⟩ := hO'
    refine Pm_suc rfl (fun k => by rw [x_drawn]) (fun k => by rw [x_drawn]) (fun m1 _ => ?_)
    rw [x1, y1, n_add1, n_add1, n_cl (p := v1 + 1) (by omega), n_cl (p := v2 + 1) (by omega), o11, o12]
    refine Pm_chk (fun _ _ => ?_)
    refine Pm_ite Iff.rfl (fun _ _ => c12 m1 _ _ (0, σ1) (0, σ2) rfl rfl ⟨KQ_same (a := 0) (b := 0) hS1 hS2 (by rw [e1, e2]) (by decide) (by decide) (EVb_0 (by decide)), hw⟩) (fun z _ => ?_)
    have hp : 1 ≤ p := by
      by_cases e : p = 0
      · exact absurd (by rw [e]; rfl) z
      · omega
    refine Pm_suc rfl (fun k => by rw [x_drawn]) (fun k => by rw [x_drawn]) (fun m2 _ => ?_)
    rw [x1, y1, n_add1, n_add1, n_cl (p := v1 + 1) (by omega), n_cl (p := v2 + 1) (by omega), o11, o12]
    refine Pm_chk (fun _ _ => ?_)
    refine Pm_ob (Pm_un (s_draw (n := p) hp (by omega) rfl) (fun k => f_draw k _ _ _) (s_draw (n := p) hp (by omega) rfl) (fun k => f_draw k _ _ _) (k_draw rfl hw)) (fun r1 r2 hr => ?_)
    obtain ⟨⟨r0, w1, w2, q1, q2, q3⟩, ⟨_, i, hi, ei⟩, _⟩ := hr
    rw [← r0, q1, q2, ei]
    refine Pm_ob (Pm_wl (fun k => wl_memberAt k _ _ _) (fun k => wl_memberAt k _ _ _) (k_memberAt (σ1 := (σ1.1, w1, σ1.2.2)) (σ2 := (σ2.1, w2, σ2.2.2)) (HS_c hS1 rfl rfl rfl) (HS_c hS2 rfl rfl rfl) e1 e2 (by omega) (by omega) hO (by omega) hi rfl rfl rfl rfl)) (fun s1 s2 hs => c12 m2 _ _ s1 s2 rfl rfl ⟨KQ_mo hs.1 (by omega), ?_⟩)
    rw [hs.2.1, hs.2.2]
    exact q3
  refine Pm_suc rfl (fun k => by rw [x_drawn]) (fun k => by rw [x_drawn]) (fun m1 _ => ?_)
  refine Pm_ob (Pm_t2 (s_kind hS1 hv1 (by exact d1)) (fun k => f_kind k _ _ _) (s_kind hS2 hv2 (by exact f1)) (fun k => f_kind k _ _ _)) (fun r1 r2 hr => ?_)
  rw [hr.1, hr.2, (EVb_sz hv).2.2]
  refine Pm_ite Iff.rfl (fun z _ => ?_) (fun _ _ => ?_)
  · have z := (n_eq (q := 2) (by omega) (by decide)).mp z
    obtain ⟨k, p, hO⟩ := OE_of hS1 hS2 (kdN_ge hS1 hv1 (by omega)) hv2 hv
    obtain ⟨_, _, _, _, _, o6, o7, _, _, _, o11, o12, o13, o14, _, _, _⟩ := hO
    obtain ⟨q, hA⟩ := WhE_of hS1 hS2 hv1 hv2 hv z
    rw [d1, f1, n_add1, n_add1, n_cl (p := v1 + 1) (by omega), n_cl (p := v2 + 1) (by omega)]
    refine Pm_chk (fun _ _ => ?_)
    refine Pm_ite (by show σ1.2.2 28 (v1 + 1) ≤ 3 ↔ σ2.2.2 28 (v2 + 1) ≤ 3; rw [o11, o12]) (fun _ _ => ?_) (fun _ _ => c2 z m1 _ _ (LEn_u (LEn_u hL rfl) rfl) d1 f1)
    have hM := LEn_u (j := 2) (x := nI (kdN (σ1.2.2 28) v1)) hL rfl
    refine Pm_suc rfl (fun k => by rw [x_drawn]) (fun k => by rw [x_drawn]) (fun m2 _ => ?_)
    refine Pm_ob (Pm_un (s_intOf (b := 2147483646) hS1 hA.1 (by decide) (by exact d1) rfl) (fun k => f_intOf k _ _ _ _) (s_intOf (b := 2147483646) hS2 hA.2.1 (by decide) (by exact f1) rfl) (fun k => f_intOf k _ _ _ _) (k_intOf hS1 hS2 hA (by exact d1) (by exact f1) rfl)) (fun s1 s2 hs => ?_)
    obtain ⟨hr0, ⟨hr1', _⟩, ⟨hr2', _⟩⟩ := hs
    rw [← hr0, hr1', hr2']
    exact c2 z m2 _ _ (LEn_u hM rfl) d1 f1
  refine Pm_suc rfl (fun k => by rw [x_drawn]) (fun k => by rw [x_drawn]) (fun m2 _ => ?_)
  refine Pm_ite Iff.rfl (fun z _ => ?_) (fun _ _ => ?_)
  · exact c10 ((n_le (p := 4) (by decide) (by omega)).mp z) m2 _ _ d1 f1
  · refine Pm_ob (Pm_wl (fun k => wl_wrongKind k _ _ _) (fun k => wl_wrongKind k _ _ _) (k_wrongKind (K := 70) hS1 hS2 _ _)) (fun s1 s2 hs => Pm_some ⟨hs.1, ?_⟩)
    show s1.2.2.1 96 = s2.2.2.1 96
    rw [hs.2.1, hs.2.2]
    exact hw
end KDW
