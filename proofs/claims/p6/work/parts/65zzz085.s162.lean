/-! Two runs side by side (reference): powers. -/
section KRA
variable {g1 g2 : Nat → Prop} {l1 l2 : List Nat} {B1 h1 B2 h2 n : Nat} {σ1 σ2 : MS}
theorem KQ_same {K : Nat} {a b : Nat} (hS1 : HS g1 l1 B1 h1 σ1) (hS2 : HS g2 l2 B2 h2 σ2) (e : σ1.1 56 = 0 ↔ σ2.1 56 = 0) (ha : a < 1740000) (hb : b < 1740000) (hv : EVb (σ1.2.2 28) (σ2.2.2 28) a b) : KQ h1 h2 K (nI a, σ1) (nI b, σ2) := ⟨e, fun _ => ⟨a, b, rfl, rfl, ha, hb, hv⟩, h1, h2, hS1.2.2.1, hS2.2.2.1, by omega, by omega⟩
theorem EVb_0 {H1 H2 : Nat → Int32} {m : Nat} (hm : m < 3) : EVb H1 H2 m m := ⟨fun a b => a < 3 ∧ b = a, fun a b h => Or.inl h, hm, rfl⟩
/-- the powers' loop -/
theorem k_raise9 {a1 a2 p : Nat} (hS1 : HS g1 l1 B1 h1 σ1) (hS2 : HS g2 l2 B2 h2 σ2) (e1 : σ1.1 56 = 0) (e2 : σ2.1 56 = 0) (hr1 : h1 + 70 ≤ B1 + 870000) (hr2 : h2 + 70 ≤ B2 + 870000) (hA : WhE σ1 σ2 a1 a2 p) {L1 L2 : Nat → Int32} (d1 : L1 1 = nI a1) (f1 : L2 1 = nI a2) (hL : LE3 L1 L2) : Pm n (fun k => x_raise k 9 L1 σ1) (fun k => x_raise k 9 L2 σ2) (KQ h1 h2 70) := by
  have hp := hA.1.2.2.1
  -- with an error
  have er18 : ∀ (m : Nat) (N1 N2 : Nat → Int32) (τ1 τ2 : MS), τ1.1 56 = 5 → τ2.1 56 = 5 → τ1.1 55 = nI h1 → τ2.1 55 = nI h2 → Pm m (fun k => x_raise k 18 N1 τ1) (fun k => x_raise k 18 N2 τ2) (KQ h1 h2 70) := by
    intro m N1 N2 τ1 τ2 y1 y2 y3 y4
    refine Pm_suc rfl (fun k => by rw [x_raise]) (fun k => by rw [x_raise]) (fun m1 _ => ?_)
    rw [y1, y2]
    refine Pm_ite Iff.rfl (fun w _ => absurd w (by decide)) (fun _ _ => ?_)
    exact Pm_some (KQ_er (by rw [y1]; decide) (by rw [y2]; decide) y3 y4)
  have er15 : ∀ (m : Nat) (N1 N2 : Nat → Int32) (τ1 τ2 : MS), LE3 N1 N2 → τ1.1 86 = τ2.1 86 → τ1.1 56 = 5 → τ2.1 56 = 5 → τ1.1 55 = nI h1 → τ2.1 55 = nI h2 → Pm m (fun k => x_raise k 15 N1 τ1) (fun k => x_raise k 15 N2 τ2) (KQ h1 h2 70) := by
    intro m
    induction m using Nat.strongRecOn with
    | ind m ih =>
    intro N1 N2 τ1 τ2 hN y0 y1 y2 y3 y4
    refine Pm_suc rfl (fun k => by rw [x_raise]) (fun k => by rw [x_raise]) (fun m1 hm1 => ?_)
    rw [y0, hN 7 (by omega)]
    refine Pm_ite Iff.rfl (fun _ _ => ?_) (fun _ _ => ?_)
    · refine Pm_suc rfl (fun k => by rw [x_raise]) (fun k => by rw [x_raise]) (fun m2 hm2 => ?_)
      refine Pm_suc rfl (fun k => by rw [x_raise]) (fun k => by rw [x_raise]) (fun m3 hm3 => ?_)
      rw [y1, y2]
      refine Pm_ite (by show N1 3 ≤ N1 6 + 1 ↔ N2 3 ≤ N2 6 + 1; rw [hN 3 (by omega), hN 6 (by omega)]) (fun _ _ => er18 m3 _ _ _ _ y1 y2 y3 y4) (fun _ _ => ?_)
      exact Pm_ite Iff.rfl (fun w _ => absurd w (by decide)) (fun _ _ => er18 m3 _ _ _ _ y1 y2 y3 y4)
    · refine Pm_chk (fun _ _ => ?_)
      refine Pm_chk (fun _ _ => ?_)
      show Pm m1 (fun k => x_raise k 16 N1 (mAr τ1 47 (N2 7).toNatClampNeg _)) (fun k => x_raise k 16 N2 (mAr τ2 47 (N2 7).toNatClampNeg _)) _
      refine Pm_suc rfl (fun k => by rw [x_raise]) (fun k => by rw [x_raise]) (fun m2 hm2 => ?_)
      exact ih m2 (by omega) _ _ _ _ (LE_u hN (by rw [hN 7 (by omega)])) y0 y1 y2 y3 y4
  -- the end
  have b25 : ∀ (m c : Nat) (N1 N2 : Nat → Int32) (τ1 τ2 : MS), c ≤ 300 → LE3 N1 N2 → NF σ1 τ1 → NF σ2 τ2 → τ1.1 86 = nI c → τ2.1 86 = nI c → AgN (τ1.2.2 44) (τ2.2.2 44) c → Pm m (fun k => x_raise k 25 N1 τ1) (fun k => x_raise k 25 N2 τ2) (KQ h1 h2 70) := by
    intro m c N1 N2 τ1 τ2 hc hN n1 n2 c1 c2 hC
    refine Pm_suc rfl (fun k => by rw [x_raise]) (fun k => by rw [x_raise]) (fun m1 _ => ?_)
    exact Pm_ob (k_wholeOf (NF_HS n1 hS1) (NF_HS n2 hS2) ((n1.1 56 (by decide)).trans e1) ((n2.1 56 (by decide)).trans e2) hr1 hr2 hc c1 c2 hC (by exact hN 100 (by omega))) (fun r1 r2 hr => Pm_some hr)
  have b21 : ∀ (m c i : Nat) (N1 N2 : Nat → Int32) (τ1 τ2 : MS), c ≤ 128 → i ≤ c → LE3 N1 N2 → N1 1 = nI a1 → N2 1 = nI a2 → N1 5 = nI c → N1 6 = nI i → NF σ1 τ1 → NF σ2 τ2 → τ1.1 86 = nI c → τ2.1 86 = nI c → AgN (τ1.2.2 47) (τ2.2.2 47) c → AgN (τ1.2.2 44) (τ2.2.2 44) i → Pm m (fun k => x_raise k 21 N1 τ1) (fun k => x_raise k 21 N2 τ2) (KQ h1 h2 70) := by
    intro m
    induction m using Nat.strongRecOn with
    | ind m ih =>
    intro c i N1 N2 τ1 τ2 hc hi hN x1 x2 x5 x6 n1 n2 c1 c2 hR hC
    have y5 : N2 5 = nI c := (hN 5 (by omega)).symm.trans x5
    have y6 : N2 6 = nI i := (hN 6 (by omega)).symm.trans x6
    refine Pm_suc rfl (fun k => by rw [x_raise]) (fun k => by rw [x_raise]) (fun m1 hm1 => ?_)
    rw [x5, y5, x6, y6, n_cl (p := i) (by omega)]
    refine Pm_ite Iff.rfl (fun y _ => ?_) (fun y _ => ?_)
    · have y := (n_le (by omega) (by omega)).mp y
      have e : i = c := by omega
      rw [e] at hC
      have hU1 := NF_HS n1 hS1
      have hU2 := NF_HS n2 hS2
      refine Pm_suc rfl (fun k => by rw [x_raise]) (fun k => by rw [x_raise]) (fun m2 hm2 => ?_)
      refine Pm_ob (k_signOf hU1 hU2 (WhE_NF n1 n2 hA) (by exact x1) (by exact x2)) (fun z1 z2 hz => ?_)
      rw [hz.1, hz.2]
      have b24 : ∀ m', Pm m' (fun k => x_raise k 24 N1 τ1) (fun k => x_raise k 24 N2 τ2) (KQ h1 h2 70) := fun m' => by
        refine Pm_suc rfl (fun k => by rw [x_raise]) (fun k => by rw [x_raise]) (fun m3 hm3 => ?_)
        exact b25 m3 c _ _ _ _ (by omega) (LE_u hN rfl) n1 n2 c1 c2 hC
      refine Pm_ite Iff.rfl (fun _ _ => b24 m2) (fun _ _ => ?_)
      exact Pm_ite (by rw [hN 4 (by omega)]) (fun _ _ => b24 m2) (fun _ _ => b25 m2 c _ _ _ _ (by omega) (LE_u hN rfl) n1 n2 c1 c2 hC)
    have hic : i < c := by
      by_cases e : c ≤ i
      · exact absurd ((n_le (by omega) (by omega)).mpr e) y
      · omega
    refine Pm_chk (fun _ _ => ?_)
    refine Pm_chk (fun _ _ => ?_)
    show Pm m1 (fun k => x_raise k 22 N1 (mAr τ1 44 i (τ1.2.2 47 i))) (fun k => x_raise k 22 N2 (mAr τ2 44 i (τ2.2.2 47 i))) _
    refine Pm_suc rfl (fun k => by rw [x_raise]) (fun k => by rw [x_raise]) (fun m2 hm2 => ?_)
    refine ih m2 (by omega) c (i + 1) _ _ _ _ hc (by omega) (LE_u hN (by rw [hN 6 (by omega)])) x1 x2 x5 (by show N1 6 + 1 = _; rw [x6, n_add1]) (NF_tr n1 (NF_ar (by omega))) (NF_tr n2 (NF_ar (by omega))) c1 c2 ?_ ?_
    · rw [mAr_o (by decide), mAr_o (by decide)]; exact hR
    · rw [mAr_s, mAr_s]; exact AgN_up hC (hR i hic)
  have b18 : ∀ (m c : Nat) (N1 N2 : Nat → Int32) (τ1 τ2 : MS), c ≤ 128 → LE3 N1 N2 → N1 1 = nI a1 → N2 1 = nI a2 → N1 5 = nI c → NF σ1 τ1 → NF σ2 τ2 → AgN (τ1.2.2 47) (τ2.2.2 47) c → Pm m (fun k => x_raise k 18 N1 τ1) (fun k => x_raise k 18 N2 τ2) (KQ h1 h2 70) := by
    intro m c N1 N2 τ1 τ2 hc hN x1 x2 x5 n1 n2 hR
    have y5 : N2 5 = nI c := (hN 5 (by omega)).symm.trans x5
    refine Pm_suc rfl (fun k => by rw [x_raise]) (fun k => by rw [x_raise]) (fun m1 _ => ?_)
    rw [n1.1 56 (by decide), n2.1 56 (by decide), e1, e2]
    refine Pm_ite Iff.rfl (fun _ _ => ?_) (fun w _ => absurd (by decide) w)
    refine Pm_suc rfl (fun k => by rw [x_raise]) (fun k => by rw [x_raise]) (fun m2 _ => ?_)
    rw [x5, y5]
    show Pm m2 (fun k => x_raise k 20 N1 (mSc τ1 86 (nI c))) (fun k => x_raise k 20 N2 (mSc τ2 86 (nI c))) _
    refine Pm_suc rfl (fun k => by rw [x_raise]) (fun k => by rw [x_raise]) (fun m3 _ => ?_)
    exact b21 m3 c 0 _ _ _ _ hc (Nat.zero_le _) (LE_u hN rfl) x1 x2 x5 rfl (NF_tr n1 (NF_sc (by omega))) (NF_tr n2 (NF_sc (by omega))) rfl rfl hR (fun i hi => absurd hi (Nat.not_lt_zero i))
  -- one more factor
  have b13 : ∀ (m c : Nat) (N1 N2 : Nat → Int32) (τ1 τ2 : MS), c ≤ 64 → LE3 N1 N2 → N1 1 = nI a1 → N2 1 = nI a2 → N1 5 = nI c → NF σ1 τ1 → NF σ2 τ2 → τ1.1 84 = nI (p - 1) → τ2.1 84 = nI (p - 1) → AgN (τ1.2.2 42) (τ2.2.2 42) (p - 1) → AgN (τ1.2.2 47) (τ2.2.2 47) c → Pm m (fun k => x_raise k 13 N1 τ1) (fun k => x_raise k 13 N2 τ2) (KQ h1 h2 70) := by
    intro m
    induction m using Nat.strongRecOn with
    | ind m ih =>
    intro c N1 N2 τ1 τ2 hc hN x1 x2 x5 n1 n2 p1 p2 hP hR
    have y5 : N2 5 = nI c := (hN 5 (by omega)).symm.trans x5
    refine Pm_suc rfl (fun k => by rw [x_raise]) (fun k => by rw [x_raise]) (fun m1 hm1 => ?_)
    rw [n1.1 56 (by decide), n2.1 56 (by decide), e1, e2, hN 3 (by omega), hN 6 (by omega), x5, y5]
    refine Pm_ite Iff.rfl (fun _ _ => b18 m1 c _ _ _ _ (by omega) hN x1 x2 x5 n1 n2 hR) (fun _ _ => ?_)
    refine Pm_ite Iff.rfl (fun _ _ => ?_) (fun w _ => absurd rfl w)
    refine Pm_ob (k_rowsTimes (p := c) (q := p - 1) (by omega) (by omega) p1 p2 hR hP rfl rfl) (fun r1 r2 hr => ?_)
    obtain ⟨q1, q2, ⟨d, d0, d1', d2', d3⟩, q4, q5, q6, q7⟩ := hr
    rw [d1', d2']
    have b15 : ∀ (m' i : Nat) (M1 M2 : Nat → Int32) (υ1 υ2 : MS), m' < m → i ≤ d → d ≤ 64 → LE3 M1 M2 → M1 1 = nI a1 → M2 1 = nI a2 → M1 5 = nI d → M1 7 = nI i → NF σ1 υ1 → NF σ2 υ2 → υ1.1 84 = nI (p - 1) → υ2.1 84 = nI (p - 1) → υ1.1 86 = nI d → υ2.1 86 = nI d → AgN (υ1.2.2 42) (υ2.2.2 42) (p - 1) → AgN (υ1.2.2 44) (υ2.2.2 44) d → AgN (υ1.2.2 47) (υ2.2.2 47) i → Pm m' (fun k => x_raise k 15 M1 υ1) (fun k => x_raise k 15 M2 υ2) (KQ h1 h2 70) := by
      intro m'
      induction m' using Nat.strongRecOn with
      | ind m' ihj =>
      intro i M1 M2 υ1 υ2 hm' hi hd hM z1 z2 z5 z7 n1 n2 p1 p2 c1 c2 hP hC hR
      have w7 : M2 7 = nI i := (hM 7 (by omega)).symm.trans z7
      refine Pm_suc rfl (fun k => by rw [x_raise]) (fun k => by rw [x_raise]) (fun k1 hk1 => ?_)
      rw [c1, c2, z7, w7, n_cl (p := i) (by omega)]
      refine Pm_ite Iff.rfl (fun y _ => ?_) (fun y _ => ?_)
      · have y := (n_le (by omega) (by omega)).mp y
        have e : i = d := by omega
        rw [e] at hR
        refine Pm_suc rfl (fun k => by rw [x_raise]) (fun k => by rw [x_raise]) (fun k2 hk2 => ?_)
        exact ih k2 (by omega) d _ _ _ _ hd (LE_u hM (by rw [hM 6 (by omega)])) z1 z2 z5 n1 n2 p1 p2 hP hR
      have hid : i < d := by
        by_cases e : d ≤ i
        · exact absurd ((n_le (by omega) (by omega)).mpr e) y
        · omega
      refine Pm_chk (fun _ _ => ?_)
      refine Pm_chk (fun _ _ => ?_)
      show Pm k1 (fun k => x_raise k 16 M1 (mAr υ1 47 i (υ1.2.2 44 i))) (fun k => x_raise k 16 M2 (mAr υ2 47 i (υ2.2.2 44 i))) _
      refine Pm_suc rfl (fun k => by rw [x_raise]) (fun k => by rw [x_raise]) (fun k2 hk2 => ?_)
      refine ihj k2 (by omega) (i + 1) _ _ _ _ (by omega) (by omega) hd (LE_u hM (by rw [hM 7 (by omega)])) z1 z2 z5 (by show M1 7 + 1 = _; rw [z7, n_add1]) (NF_tr n1 (NF_ar (by omega))) (NF_tr n2 (NF_ar (by omega))) p1 p2 c1 c2 ?_ ?_ ?_
      · rw [mAr_o (by decide), mAr_o (by decide)]; exact hP
      · rw [mAr_o (by decide), mAr_o (by decide)]; exact hC
      · rw [mAr_s, mAr_s]; exact AgN_up hR (hC i hid)
    have nn1 := NF_tr n1 q1
    have nn2 := NF_tr n2 q2
    refine Pm_ite Iff.rfl (fun y _ => ?_) (fun y _ => ?_)
    · have hd := (n_le (q := 64) (by omega) (by decide)).mp y
      refine Pm_suc rfl (fun k => by rw [x_raise]) (fun k => by rw [x_raise]) (fun m2 hm2 => ?_)
      rw [d1', d2']
      exact b15 m2 0 _ _ _ _ (by omega) (Nat.zero_le _) hd (LE_u (LE_u hN rfl) rfl) x1 x2 rfl rfl nn1 nn2 q6 q7 d1' d2' (by rw [q4, q5]; exact hP) d3 (fun i hi => absurd hi (Nat.not_lt_zero i))
    · refine Pm_ob (Pm_t2 (s_fail _ r1.2) (fun k => f_fail k _ _ _) (s_fail _ r2.2) (fun k => f_fail k _ _ _)) (fun s1 s2 hs => ?_)
      rw [hs.1, hs.2]
      have t56 : ∀ {σ τ : MS}, NF σ τ → σ.1 56 = 0 → (mEr τ ((upd (fun _ => 0) 1 5 : Nat → Int32) 1)).1 56 = 5 := fun hn he => by
        rw [mEr_56, if_pos ((hn.1 56 (by decide)).trans he)]; rfl
      refine Pm_suc rfl (fun k => by rw [x_raise]) (fun k => by rw [x_raise]) (fun m2 hm2 => ?_)
      rw [show (mEr r1.2 ((upd (fun _ => 0) 1 5 : Nat → Int32) 1)).1 86 = nI d from (mEr_s (by decide)).trans d1', show (mEr r2.2 ((upd (fun _ => 0) 1 5 : Nat → Int32) 1)).1 86 = nI d from (mEr_s (by decide)).trans d2']
      refine er15 m2 _ _ _ _ (LE_u (LE_u hN rfl) rfl) ?_ (t56 nn1 e1) (t56 nn2 e2) ?_ ?_
      · exact ((mEr_s (by decide)).trans d1').trans ((mEr_s (by decide)).trans d2').symm
      · exact (mEr_s (by decide)).trans ((nn1.1 55 (by decide)).trans hS1.2.2.1)
      · exact (mEr_s (by decide)).trans ((nn2.1 55 (by decide)).trans hS2.2.2.1)
  have b10 : ∀ (m i : Nat) (N1 N2 : Nat → Int32) (τ1 τ2 : MS), i ≤ p - 1 → LE3 N1 N2 → N1 1 = nI a1 → N2 1 = nI a2 → N1 5 = nI (p - 1) → N1 6 = nI i → NF σ1 τ1 → NF σ2 τ2 → τ1.1 84 = nI (p - 1) → τ2.1 84 = nI (p - 1) → AgN (τ1.2.2 42) (τ2.2.2 42) (p - 1) → AgN (τ1.2.2 47) (τ2.2.2 47) i → Pm m (fun k => x_raise k 10 N1 τ1) (fun k => x_raise k 10 N2 τ2) (KQ h1 h2 70) := by
    intro m
    induction m using Nat.strongRecOn with
    | ind m ih =>
    intro i N1 N2 τ1 τ2 hi hN x1 x2 x5 x6 n1 n2 p1 p2 hP hR
    have y6 : N2 6 = nI i := (hN 6 (by omega)).symm.trans x6
    refine Pm_suc rfl (fun k => by rw [x_raise]) (fun k => by rw [x_raise]) (fun m1 hm1 => ?_)
    rw [p1, p2, x6, y6, n_cl (p := i) (by omega)]
    refine Pm_ite Iff.rfl (fun y _ => ?_) (fun y _ => ?_)
    · have y := (n_le (by omega) (by omega)).mp y
      have e : i = p - 1 := by omega
      rw [e] at hR
      refine Pm_suc rfl (fun k => by rw [x_raise]) (fun k => by rw [x_raise]) (fun m2 hm2 => ?_)
      exact b13 m2 (p - 1) _ _ _ _ (by omega) (LE_u hN rfl) x1 x2 x5 n1 n2 p1 p2 hP hR
    have hip : i < p - 1 := by
      by_cases e : p - 1 ≤ i
      · exact absurd ((n_le (by omega) (by omega)).mpr e) y
      · omega
    refine Pm_chk (fun _ _ => ?_)
    refine Pm_chk (fun _ _ => ?_)
    show Pm m1 (fun k => x_raise k 11 N1 (mAr τ1 47 i (τ1.2.2 42 i))) (fun k => x_raise k 11 N2 (mAr τ2 47 i (τ2.2.2 42 i))) _
    refine Pm_suc rfl (fun k => by rw [x_raise]) (fun k => by rw [x_raise]) (fun m2 hm2 => ?_)
    refine ih m2 (by omega) (i + 1) _ _ _ _ (by omega) (LE_u hN (by rw [hN 6 (by omega)])) x1 x2 x5 (by show N1 6 + 1 = _; rw [x6, n_add1]) (NF_tr n1 (NF_ar (by omega))) (NF_tr n2 (NF_ar (by omega))) p1 p2 ?_ ?_
    · rw [mAr_o (by decide), mAr_o (by decide)]; exact hP
    · rw [mAr_s, mAr_s]; exact AgN_up hR (hP i hip)
  refine Pm_suc rfl (fun k => by rw [x_raise]) (fun k => by rw [x_raise]) (fun m1 _ => ?_)
  refine Pm_ob (k_loadA hS1 hS2 hA (by exact d1) (by exact f1)) (fun r1 r2 hr => ?_)
  obtain ⟨q1, q2, q3, q4, q5⟩ := hr
  rw [q3, q4]
  exact b10 m1 0 _ _ _ _ (Nat.zero_le _) (LE_u (LE_u hL rfl) rfl) d1 f1 rfl rfl q1 q2 q3 q4 q5 (fun i hi => absurd hi (Nat.not_lt_zero i))
theorem k_raise {a1 a2 b1 b2 p q : Nat} (hS1 : HS g1 l1 B1 h1 σ1) (hS2 : HS g2 l2 B2 h2 σ2) (e1 : σ1.1 56 = 0) (e2 : σ2.1 56 = 0) (hr1 : h1 + 70 ≤ B1 + 870000) (hr2 : h2 + 70 ≤ B2 + 870000) (hA : WhE σ1 σ2 a1 a2 p) (hB : WhE σ1 σ2 b1 b2 q) (hv : EVb (σ1.2.2 28) (σ2.2.2 28) a1 a2) {L1 L2 : Nat → Int32} (d1 : L1 1 = nI a1) (d2 : L1 2 = nI b1) (f1 : L2 1 = nI a2) (f2 : L2 2 = nI b2) (hL : LE3 L1 L2) : Pm n (fun k => x_raise k 0 L1 σ1) (fun k => x_raise k 0 L2 σ2) (KQ h1 h2 70) := by
  have hp := hA.1.2.2.1
  have hp1 := hA.1.2.1
  have ha1 := hA.1.2.2.2.1
  have ha2 := hA.2.1.2.2.2.1
  have hq := hB.1.2.2.1
  have hq1 := hB.1.2.1
  have hb1 := hB.1.2.2.2.1
  have hb2 := hB.2.1.2.2.2.1
  have sm : ∀ m, Pm m (fun k => x_small k 0 (upd (fun _ => 0) 1 1) σ1) (fun k => x_small k 0 (upd (fun _ => 0) 1 1) σ2) (KQ h1 h2 70) := fun m => k_small hS1 hS2 e1 e2 hr1 hr2 (fun i hi => rfl)
  have b5 : ∀ (m : Nat) (N1 N2 : Nat → Int32), N1 1 = nI a1 → N2 1 = nI a2 → LE3 N1 N2 → Pm m (fun k => x_raise k 5 N1 σ1) (fun k => x_raise k 5 N2 σ2) (KQ h1 h2 70) := by
    intro m N1 N2 x1 x2 hN
    have b6 : ∀ m', Pm m' (fun k => x_raise k 6 N1 σ1) (fun k => x_raise k 6 N2 σ2) (KQ h1 h2 70) := fun m' => by
      refine Pm_suc rfl (fun k => by rw [x_raise]) (fun k => by rw [x_raise]) (fun m2 _ => ?_)
      refine Pm_suc rfl (fun k => by rw [x_raise]) (fun k => by rw [x_raise]) (fun m3 _ => ?_)
      rw [show upd N1 100 (N1 1) 100 = nI a1 from x1, show upd N2 100 (N2 1) 100 = nI a2 from x2]
      exact Pm_some (KQ_same hS1 hS2 (by rw [e1, e2]) (by omega) (by omega) hv)
    refine Pm_suc rfl (fun k => by rw [x_raise]) (fun k => by rw [x_raise]) (fun m1 _ => ?_)
    refine Pm_ob (k_signOf hS1 hS2 hA (by exact x1) (by exact x2)) (fun z1 z2 hz => ?_)
    rw [hz.1, hz.2]
    refine Pm_ite Iff.rfl (fun _ _ => b6 m1) (fun _ _ => ?_)
    refine Pm_ite (by rw [hN 4 (by omega)]) (fun _ _ => ?_) (fun _ _ => b6 m1)
    refine Pm_suc rfl (fun k => by rw [x_raise]) (fun k => by rw [x_raise]) (fun m2 _ => ?_)
    refine Pm_ob (sm m2) (fun r1 r2 hr => ?_)
    refine Pm_suc rfl (fun k => by rw [x_raise]) (fun k => by rw [x_raise]) (fun m3 _ => ?_)
    exact Pm_some hr
  have b4 : ∀ (m : Nat) (N1 N2 : Nat → Int32), N1 1 = nI a1 → N2 1 = nI a2 → LE3 N1 N2 → Pm m (fun k => x_raise k 4 N1 σ1) (fun k => x_raise k 4 N2 σ2) (KQ h1 h2 70) := by
    intro m N1 N2 x1 x2 hN
    have hN4 : LE3 (upd N1 4 (N1 100)) (upd N2 4 (N2 100)) := LE_u hN (hN 100 (by omega))
    have go9 := fun m' => k_raise9 (n := m') hS1 hS2 e1 e2 hr1 hr2 hA (L1 := upd N1 4 (N1 100)) (L2 := upd N2 4 (N2 100)) x1 x2 hN4
    refine Pm_suc rfl (fun k => by rw [x_raise]) (fun k => by rw [x_raise]) (fun m1 _ => ?_)
    rw [x1, x2, n_add1, n_add1, show nI a1 + 5 = nI (a1 + 5) from n_add (q := 5) (by omega), show nI a2 + 5 = nI (a2 + 5) from n_add (q := 5) (by omega), n_cl (p := a1 + 1) (by omega), n_cl (p := a2 + 1) (by omega), n_cl (p := a1 + 5) (by omega), n_cl (p := a2 + 5) (by omega), hA.1.1, hA.2.1.1]
    refine Pm_chk (fun _ _ => ?_)
    refine Pm_ite Iff.rfl (fun _ _ => b5 m1 _ _ x1 x2 hN4) (fun _ _ => ?_)
    refine Pm_chk (fun _ _ => ?_)
    refine Pm_ite Iff.rfl (fun z _ => ?_) (fun _ _ => go9 m1)
    have z := (n_eq (q := 2) (by omega) (by decide)).mp z
    have hc : σ2.2.2 28 (a2 + 5) = σ1.2.2 28 (a1 + 5) := hA.2.2 1 (by omega)
    refine Pm_chk (fun _ _ => ?_)
    exact Pm_ite (by rw [hc]) (fun _ _ => b5 m1 _ _ x1 x2 hN4) (fun _ _ => go9 m1)
  refine Pm_suc rfl (fun k => by rw [x_raise]) (fun k => by rw [x_raise]) (fun m1 _ => ?_)
  refine Pm_ob (k_signOf hS1 hS2 hB (by exact d2) (by exact f2)) (fun z1 z2 hz => ?_)
  rw [hz.1, hz.2]
  refine Pm_ite Iff.rfl (fun _ _ => ?_) (fun _ _ => ?_)
  case refine_2 =>
    refine Pm_ob (Pm_t2 (s_fail _ σ1) (fun k => f_fail k _ _ _) (s_fail _ σ2) (fun k => f_fail k _ _ _)) (fun s1 s2 hs => ?_)
    rw [hs.1, hs.2]
    exact Pm_some (KQ_er (mEr_e (by decide)) (mEr_e (by decide)) ((mEr_s (by decide)).trans hS1.2.2.1) ((mEr_s (by decide)).trans hS2.2.2.1))
  refine Pm_suc rfl (fun k => by rw [x_raise]) (fun k => by rw [x_raise]) (fun m2 _ => ?_)
  refine Pm_ob (Pm_un (s_intOf (b := 5000) hS1 hB.1 (by decide) (by exact d2) rfl) (fun k => f_intOf k _ _ _ _) (s_intOf (b := 5000) hS2 hB.2.1 (by decide) (by exact f2) rfl) (fun k => f_intOf k _ _ _ _) (k_intOf hS1 hS2 hB (by exact d2) (by exact f2) rfl)) (fun r1 r2 hr => ?_)
  obtain ⟨hr0, ⟨hr1', _⟩, ⟨hr2', _⟩⟩ := hr
  rw [hr0, hr1', hr2']
  refine Pm_ite Iff.rfl (fun _ _ => Pm_ob (sm m2) (fun s1 s2 hs => Pm_some hs)) (fun _ _ => ?_)
  have hL3 : LE3 (upd L1 3 r2.1) (upd L2 3 r2.1) := LE_u hL rfl
  refine Pm_suc rfl (fun k => by rw [x_raise]) (fun k => by rw [x_raise]) (fun m3 _ => ?_)
  rw [show upd L1 3 r2.1 2 = nI b1 from d2, show upd L2 3 r2.1 2 = nI b2 from f2, n_add1, n_add1, show nI b1 + 5 = nI (b1 + 5) from n_add (q := 5) (by omega), show nI b2 + 5 = nI (b2 + 5) from n_add (q := 5) (by omega), n_cl (p := b1 + 1) (by omega), n_cl (p := b2 + 1) (by omega), n_cl (p := b1 + 5) (by omega), n_cl (p := b2 + 5) (by omega), hB.1.1, hB.2.1.1]
  have b3 : ∀ m', Pm m' (fun k => x_raise k 3 (upd L1 3 r2.1) σ1) (fun k => x_raise k 3 (upd L2 3 r2.1) σ2) (KQ h1 h2 70) := fun m' => by
    refine Pm_suc rfl (fun k => by rw [x_raise]) (fun k => by rw [x_raise]) (fun m4 _ => ?_)
    exact b4 m4 _ _ d1 f1 (LE_u hL3 rfl)
  refine Pm_chk (fun _ _ => ?_)
  refine Pm_ite Iff.rfl (fun _ _ => b3 m3) (fun z _ => ?_)
  have hq2 : 2 ≤ q := by
    by_cases e : q ≤ 1
    · exact absurd ((n_le (q := 1) (by omega) (by decide)).mpr e) z
    · omega
  have hc : σ2.2.2 28 (b2 + 5) = σ1.2.2 28 (b1 + 5) := hB.2.2 1 (by omega)
  refine Pm_chk (fun _ _ => ?_)
  exact Pm_ite (by rw [hc]) (fun _ _ => b4 m3 _ _ d1 f1 (LE_u hL3 rfl)) (fun _ _ => b3 m3)
end KRA
