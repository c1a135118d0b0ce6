section JnS161
/-! Two runs side by side (reference): small, other, literal, intOf. -/
/-- locals from lo on are the same -/
def LEn (lo : Nat) (N1 N2 : Nat → Int32) : Prop := ∀ i, lo ≤ i → N1 i = N2 i
theorem LEn_u {lo : Nat} {N1 N2 : Nat → Int32} {j : Nat} {x y : Int32} (h : LEn lo N1 N2) (e : x = y) : LEn lo (upd N1 j x) (upd N2 j y) := fun i hi => by
  by_cases c : i = j
  · rw [c, upd_same, upd_same, e]
  · rw [upd_other c, upd_other c]; exact h i hi
section KSM
variable {g1 g2 : Nat → Prop} {l1 l2 : List Nat} {B1 h1 B2 h2 n : Nat} {σ1 σ2 : MS}
theorem n_lt300 {c : Nat} (hc : c ≤ 300) (h : ¬ (nI c < 0 ∨ 300 ≤ (nI c).toNatClampNeg)) : c < 300 := by
  rw [n_cl (by omega)] at h
  by_cases e : c < 300
  · exact e
  · exact absurd (Or.inr (by omega)) h
theorem k_small (hS1 : HS g1 l1 B1 h1 σ1) (hS2 : HS g2 l2 B2 h2 σ2) (e1 : σ1.1 56 = 0) (e2 : σ2.1 56 = 0) (hr1 : h1 + 70 ≤ B1 + 870000) (hr2 : h2 + 70 ≤ B2 + 870000) {L1 L2 : Nat → Int32} (hL : LEn 1 L1 L2) : Pm n (fun k => x_small k 0 L1 σ1) (fun k => x_small k 0 L2 σ2) (KQ h1 h2 70) := by
  have b8 : ∀ (m c : Nat) (N1 N2 : Nat → Int32) (τ1 τ2 : MS), c ≤ 300 → LEn 1 N1 N2 → NF σ1 τ1 → NF σ2 τ2 → τ1.1 86 = nI c → τ2.1 86 = nI c → AgN (τ1.2.2 44) (τ2.2.2 44) c → Pm m (fun k => x_small k 8 N1 τ1) (fun k => x_small k 8 N2 τ2) (KQ h1 h2 70) := by
    intro m c N1 N2 τ1 τ2 hc hN n1 n2 c1 c2 hC
    refine Pm_suc rfl (fun k => by rw [x_small]) (fun k => by rw [x_small]) (fun m1 _ => ?_)
    exact Pm_ob (k_wholeOf (NF_HS n1 hS1) (NF_HS n2 hS2) ((n1.1 56 (by decide)).trans e1) ((n2.1 56 (by decide)).trans e2) hr1 hr2 hc c1 c2 hC (by exact hN 100 (by omega))) (fun r1 r2 hr => Pm_some hr)
  have b4 : ∀ (m c : Nat) (N1 N2 : Nat → Int32) (τ1 τ2 : MS), c ≤ 300 → LEn 1 N1 N2 → NF σ1 τ1 → NF σ2 τ2 → τ1.1 86 = nI c → τ2.1 86 = nI c → AgN (τ1.2.2 44) (τ2.2.2 44) c → Pm m (fun k => x_small k 4 N1 τ1) (fun k => x_small k 4 N2 τ2) (KQ h1 h2 70) := by
    intro m
    induction m using Nat.strongRecOn with
    | ind m ih =>
    intro c N1 N2 τ1 τ2 hc hN n1 n2 c1 c2 hC
    refine Pm_suc rfl (fun k => by rw [x_small]) (fun k => by rw [x_small]) (fun m1 hm1 => ?_)
    rw [c1, c2, hN 2 (by omega)]
    refine Pm_ite Iff.rfl (fun _ _ => ?_) (fun _ _ => ?_)
    · refine Pm_suc rfl (fun k => by rw [x_small]) (fun k => by rw [x_small]) (fun m2 hm2 => ?_)
      refine Pm_ite (by rw [hN 1 (by omega)]) (fun _ _ => ?_) (fun _ _ => b8 m2 c _ _ _ _ hc (LEn_u hN rfl) n1 n2 c1 c2 hC)
      refine Pm_suc rfl (fun k => by rw [x_small]) (fun k => by rw [x_small]) (fun m3 hm3 => ?_)
      exact b8 m3 c _ _ _ _ hc (LEn_u hN rfl) n1 n2 c1 c2 hC
    · refine Pm_chk (fun z _ => ?_)
      have hc3 := n_lt300 hc z
      rw [n_cl (p := c) (by omega)]
      show Pm m1 (fun k => x_small k 5 N1 (mAr τ1 44 c (N2 2 &&& 65535))) (fun k => x_small k 5 N2 (mAr τ2 44 c (N2 2 &&& 65535))) _
      refine Pm_suc rfl (fun k => by rw [x_small]) (fun k => by rw [x_small]) (fun m2 hm2 => ?_)
      rw [show (mAr τ1 44 c (N2 2 &&& 65535)).1 86 + 1 = nI (c + 1) by show τ1.1 86 + 1 = _; rw [c1, n_add1], show (mAr τ2 44 c (N2 2 &&& 65535)).1 86 + 1 = nI (c + 1) by show τ2.1 86 + 1 = _; rw [c2, n_add1]]
      show Pm m2 (fun k => x_small k 4 _ (mSc (mAr τ1 44 c (N2 2 &&& 65535)) 86 (nI (c + 1)))) (fun k => x_small k 4 _ (mSc (mAr τ2 44 c (N2 2 &&& 65535)) 86 (nI (c + 1)))) _
      refine ih m2 (by omega) (c + 1) _ _ _ _ (by omega) (LEn_u hN (by rw [hN 2 (by omega)])) (NF_tr n1 (NF_tr (NF_ar (by omega)) (NF_sc (by omega)))) (NF_tr n2 (NF_tr (NF_ar (by omega)) (NF_sc (by omega)))) rfl rfl ?_
      show AgN ((mAr τ1 44 c (N2 2 &&& 65535)).2.2 44) ((mAr τ2 44 c (N2 2 &&& 65535)).2.2 44) (c + 1)
      rw [mAr_s, mAr_s]; exact AgN_up hC rfl
  have b3 : ∀ (m : Nat) (N1 N2 : Nat → Int32), LEn 1 N1 N2 → Pm m (fun k => x_small k 3 N1 (mSc σ1 86 0)) (fun k => x_small k 3 N2 (mSc σ2 86 0)) (KQ h1 h2 70) := by
    intro m N1 N2 hN
    refine Pm_suc rfl (fun k => by rw [x_small]) (fun k => by rw [x_small]) (fun m1 _ => ?_)
    exact b4 m1 0 _ _ _ _ (by omega) (LEn_u hN (hN 100 (by omega))) (NF_sc (by omega)) (NF_sc (by omega)) rfl rfl (fun i hi => absurd hi (Nat.not_lt_zero i))
  refine Pm_suc rfl (fun k => by rw [x_small]) (fun k => by rw [x_small]) (fun m1 _ => ?_)
  show Pm m1 (fun k => x_small k 1 L1 (mSc σ1 86 0)) (fun k => x_small k 1 L2 (mSc σ2 86 0)) _
  refine Pm_suc rfl (fun k => by rw [x_small]) (fun k => by rw [x_small]) (fun m2 _ => ?_)
  refine Pm_ite (by rw [hL 1 (by omega)]) (fun _ _ => ?_) (fun _ _ => b3 m2 _ _ (LEn_u hL (by rw [hL 1 (by omega)])))
  refine Pm_suc rfl (fun k => by rw [x_small]) (fun k => by rw [x_small]) (fun m3 _ => ?_)
  exact b3 m3 _ _ (LEn_u hL (hL 1 (by omega)))
theorem k_other {a1 a2 p : Nat} (hS1 : HS g1 l1 B1 h1 σ1) (hS2 : HS g2 l2 B2 h2 σ2) (e1 : σ1.1 56 = 0) (e2 : σ2.1 56 = 0) (hr1 : h1 + 70 ≤ B1 + 870000) (hr2 : h2 + 70 ≤ B2 + 870000) (hA : WhE σ1 σ2 a1 a2 p) {L1 L2 : Nat → Int32} (d1 : L1 1 = nI a1) (f1 : L2 1 = nI a2) : Pm n (fun k => x_other k 0 L1 σ1) (fun k => x_other k 0 L2 σ2) (KQ h1 h2 70) := by
  have hp := hA.1.2.2.1
  have b2 : ∀ (m i : Nat) (N1 N2 : Nat → Int32) (τ1 τ2 : MS), i ≤ p - 1 → N1 1 = nI a1 → N2 1 = nI a2 → N1 2 = nI i → N2 2 = nI i → NF σ1 τ1 → NF σ2 τ2 → τ1.1 84 = nI (p - 1) → τ2.1 84 = nI (p - 1) → τ1.1 86 = nI (p - 1) → τ2.1 86 = nI (p - 1) → AgN (τ1.2.2 42) (τ2.2.2 42) (p - 1) → AgN (τ1.2.2 44) (τ2.2.2 44) i → Pm m (fun k => x_other k 2 N1 τ1) (fun k => x_other k 2 N2 τ2) (KQ h1 h2 70) := by
    intro m
    induction m using Nat.strongRecOn with
    | ind m ih =>
    intro i N1 N2 τ1 τ2 hi x1 x2 i1 i2 n1 n2 p1 p2 c1 c2 hR hC
    refine Pm_suc rfl (fun k => by rw [x_other]) (fun k => by rw [x_other]) (fun m1 hm1 => ?_)
    rw [p1, p2, i1, i2, n_cl (p := i) (by omega)]
    refine Pm_ite Iff.rfl (fun y _ => ?_) (fun y _ => ?_)
    · have y := (n_le (by omega) (by omega)).mp y
      have e : i = p - 1 := by omega
      rw [e] at hC
      have hU1 := NF_HS n1 hS1
      have hU2 := NF_HS n2 hS2
      refine Pm_suc rfl (fun k => by rw [x_other]) (fun k => by rw [x_other]) (fun m2 hm2 => ?_)
      refine Pm_ob (k_signOf hU1 hU2 (WhE_NF n1 n2 hA) (by exact x1) (by exact x2)) (fun z1 z2 hz => ?_)
      rw [hz.1, hz.2]
      exact Pm_ob (k_wholeOf hU1 hU2 ((n1.1 56 (by decide)).trans e1) ((n2.1 56 (by decide)).trans e2) hr1 hr2 (by omega) c1 c2 hC rfl) (fun r1 r2 hr => Pm_some hr)
    have hip : i < p - 1 := by
      by_cases e : p - 1 ≤ i
      · exact absurd ((n_le (by omega) (by omega)).mpr e) y
      · omega
    refine Pm_chk (fun _ _ => ?_)
    refine Pm_chk (fun _ _ => ?_)
    show Pm m1 (fun k => x_other k 3 N1 (mAr τ1 44 i (τ1.2.2 42 i))) (fun k => x_other k 3 N2 (mAr τ2 44 i (τ2.2.2 42 i))) _
    refine Pm_suc rfl (fun k => by rw [x_other]) (fun k => by rw [x_other]) (fun m2 hm2 => ?_)
    refine ih m2 (by omega) (i + 1) _ _ _ _ (by omega) x1 x2 (by show N1 2 + 1 = _; rw [i1, n_add1]) (by show N2 2 + 1 = _; rw [i2, n_add1]) (NF_tr n1 (NF_ar (by omega))) (NF_tr n2 (NF_ar (by omega))) p1 p2 c1 c2 ?_ ?_
    · rw [mAr_o (by decide), mAr_o (by decide)]; exact hR
    · rw [mAr_s, mAr_s]; exact AgN_up hC (hR i hip)
  refine Pm_suc rfl (fun k => by rw [x_other]) (fun k => by rw [x_other]) (fun m1 _ => ?_)
  refine Pm_ob (k_loadA hS1 hS2 hA (by exact d1) (by exact f1)) (fun r1 r2 hr => ?_)
  obtain ⟨q1, q2, q3, q4, q5⟩ := hr
  rw [q3, q4]
  show Pm m1 (fun k => x_other k 1 L1 (mSc r1.2 86 (nI (p - 1)))) (fun k => x_other k 1 L2 (mSc r2.2 86 (nI (p - 1)))) _
  refine Pm_suc rfl (fun k => by rw [x_other]) (fun k => by rw [x_other]) (fun m2 _ => ?_)
  exact b2 m2 0 _ _ _ _ (Nat.zero_le _) d1 f1 rfl rfl (NF_tr q1 (NF_sc (by omega))) (NF_tr q2 (NF_sc (by omega))) q3 q4 rfl rfl q5 (fun i hi => absurd hi (Nat.not_lt_zero i))
/-- a number of the text -/
theorem k_literal {f w : Nat} (hS1 : HS g1 l1 B1 h1 σ1) (hS2 : HS g2 l2 B2 h2 σ2) (e1 : σ1.1 56 = 0) (e2 : σ2.1 56 = 0) (hr1 : h1 + 70 ≤ B1 + 870000) (hr2 : h2 + 70 ≤ B2 + 870000) (hf : f + w ≤ 70000) (hP : ∀ i, i < f + w → σ1.2.2 12 i = σ2.2.2 12 i) {L1 L2 : Nat → Int32} (hL : LEn 1 L1 L2) (d1 : L1 1 = nI f) (d2 : L1 2 = nI w) : Pm n (fun k => x_literal k 0 L1 σ1) (fun k => x_literal k 0 L2 σ2) (KQ h1 h2 70) := by
  have b2 : ∀ (m c i : Nat) (N1 N2 : Nat → Int32) (τ1 τ2 : MS), c ≤ 300 → i ≤ w → LEn 1 N1 N2 → N1 1 = nI f → N1 2 = nI w → N1 3 = nI i → NF σ1 τ1 → NF σ2 τ2 → τ1.1 86 = nI c → τ2.1 86 = nI c → AgN (τ1.2.2 44) (τ2.2.2 44) c → Pm m (fun k => x_literal k 2 N1 τ1) (fun k => x_literal k 2 N2 τ2) (KQ h1 h2 70) := by
    intro m
    induction m using Nat.strongRecOn with
    | ind m ih =>
    intro c i N1 N2 τ1 τ2 hc hi hN x1 x2 x3 n1 n2 c1 c2 hC
    -- the next digit
    have b7 : ∀ (m' c : Nat) (M1 M2 : Nat → Int32) (υ1 υ2 : MS), m' < m → i < w → c ≤ 300 → LEn 1 M1 M2 → M1 1 = nI f → M1 2 = nI w → M1 3 = nI i → NF σ1 υ1 → NF σ2 υ2 → υ1.1 86 = nI c → υ2.1 86 = nI c → AgN (υ1.2.2 44) (υ2.2.2 44) c → Pm m' (fun k => x_literal k 7 M1 υ1) (fun k => x_literal k 7 M2 υ2) (KQ h1 h2 70) := by
      intro m' c M1 M2 υ1 υ2 hm' hiw hc hM y1 y2 y3 n1 n2 c1 c2 hC
      refine Pm_suc rfl (fun k => by rw [x_literal]) (fun k => by rw [x_literal]) (fun k1 hk1 => ?_)
      exact ih k1 (by omega) c (i + 1) _ _ _ _ hc (by omega) (LEn_u hM (by rw [hM 3 (by omega)])) y1 y2 (by show M1 3 + 1 = _; rw [y3, n_add1]) n1 n2 c1 c2 hC
    have b3 : ∀ (m' j : Nat) (M1 M2 : Nat → Int32) (υ1 υ2 : MS), m' < m → i < w → j ≤ c → LEn 1 M1 M2 → M1 1 = nI f → M1 2 = nI w → M1 3 = nI i → M1 5 = nI j → NF σ1 υ1 → NF σ2 υ2 → υ1.1 86 = nI c → υ2.1 86 = nI c → AgN (υ1.2.2 44) (υ2.2.2 44) c → Pm m' (fun k => x_literal k 3 M1 υ1) (fun k => x_literal k 3 M2 υ2) (KQ h1 h2 70) := by
      intro m'
      induction m' using Nat.strongRecOn with
      | ind m' ihj =>
      intro j M1 M2 υ1 υ2 hm' hiw hj hM y1 y2 y3 y5 n1 n2 c1 c2 hC
      have z5 : M2 5 = nI j := (hM 5 (by omega)).symm.trans y5
      refine Pm_suc rfl (fun k => by rw [x_literal]) (fun k => by rw [x_literal]) (fun k1 hk1 => ?_)
      rw [c1, c2, y5, z5, n_cl (p := j) (by omega)]
      refine Pm_ite Iff.rfl (fun _ _ => ?_) (fun y _ => ?_)
      · refine Pm_suc rfl (fun k => by rw [x_literal]) (fun k => by rw [x_literal]) (fun k2 hk2 => ?_)
        rw [c1, c2]
        refine Pm_ite (by rw [hM 4 (by omega)]) (fun _ _ => b7 k2 c _ _ _ _ (by omega) hiw hc hM y1 y2 y3 n1 n2 c1 c2 hC) (fun _ _ => ?_)
        refine Pm_chk (fun z _ => ?_)
        have hc3 := n_lt300 hc z
        rw [n_cl (p := c) (by omega)]
        show Pm k2 (fun k => x_literal k 6 M1 (mAr υ1 44 c (M1 4))) (fun k => x_literal k 6 M2 (mAr υ2 44 c (M2 4))) _
        refine Pm_suc rfl (fun k => by rw [x_literal]) (fun k => by rw [x_literal]) (fun k3 hk3 => ?_)
        rw [show (mAr υ1 44 c (M1 4)).1 86 + 1 = nI (c + 1) by show υ1.1 86 + 1 = _; rw [c1, n_add1], show (mAr υ2 44 c (M2 4)).1 86 + 1 = nI (c + 1) by show υ2.1 86 + 1 = _; rw [c2, n_add1]]
        show Pm k3 (fun k => x_literal k 7 M1 (mSc (mAr υ1 44 c (M1 4)) 86 (nI (c + 1)))) (fun k => x_literal k 7 M2 (mSc (mAr υ2 44 c (M2 4)) 86 (nI (c + 1)))) _
        refine b7 k3 (c + 1) _ _ _ _ (by omega) hiw (by omega) hM y1 y2 y3 (NF_tr n1 (NF_tr (NF_ar (by omega)) (NF_sc (by omega)))) (NF_tr n2 (NF_tr (NF_ar (by omega)) (NF_sc (by omega)))) rfl rfl ?_
        show AgN ((mAr υ1 44 c (M1 4)).2.2 44) ((mAr υ2 44 c (M2 4)).2.2 44) (c + 1)
        rw [mAr_s, mAr_s]; exact AgN_up hC (hM 4 (by omega))
      have hjc : j < c := by
        by_cases e : c ≤ j
        · exact absurd ((n_le (by omega) (by omega)).mpr e) y
        · omega
      refine Pm_chk (fun _ _ => ?_)
      refine Pm_chk (fun _ _ => ?_)
      have ev : 10 * υ1.2.2 44 j + M1 4 = 10 * υ2.2.2 44 j + M2 4 := by rw [hC j hjc, hM 4 (by omega)]
      rw [ev]
      show Pm k1 (fun k => x_literal k 4 _ (mAr υ1 44 j ((10 * υ2.2.2 44 j + M2 4) &&& 65535))) (fun k => x_literal k 4 _ (mAr υ2 44 j ((10 * υ2.2.2 44 j + M2 4) &&& 65535))) _
      refine Pm_suc rfl (fun k => by rw [x_literal]) (fun k => by rw [x_literal]) (fun k2 hk2 => ?_)
      refine ihj k2 (by omega) (j + 1) _ _ _ _ (by omega) hiw (by omega) (LEn_u (LEn_u (LEn_u hM rfl) rfl) ?_) y1 y2 y3 ?_ (NF_tr n1 (NF_ar (by omega))) (NF_tr n2 (NF_ar (by omega))) c1 c2 ?_
      · show M1 5 + 1 = M2 5 + 1
        rw [y5, z5]
      · show M1 5 + 1 = _
        rw [y5, n_add1]
      · rw [mAr_s, mAr_s]; exact AgN_st hC rfl
    have x3' : N2 3 = nI i := (hN 3 (by omega)).symm.trans x3
    have x1' : N2 1 = nI f := (hN 1 (by omega)).symm.trans x1
    have x2' : N2 2 = nI w := (hN 2 (by omega)).symm.trans x2
    refine Pm_suc rfl (fun k => by rw [x_literal]) (fun k => by rw [x_literal]) (fun m1 hm1 => ?_)
    rw [x1, x2, x3, x1', x2', x3', n_add (p := f) (by omega), n_cl (p := f + i) (by omega)]
    refine Pm_ite Iff.rfl (fun _ _ => ?_) (fun y _ => ?_)
    · refine Pm_suc rfl (fun k => by rw [x_literal]) (fun k => by rw [x_literal]) (fun m2 hm2 => ?_)
      exact Pm_ob (k_wholeOf (NF_HS n1 hS1) (NF_HS n2 hS2) ((n1.1 56 (by decide)).trans e1) ((n2.1 56 (by decide)).trans e2) hr1 hr2 hc c1 c2 hC rfl) (fun r1 r2 hr => Pm_some hr)
    have hiw : i < w := by
      by_cases e : w ≤ i
      · exact absurd ((n_le (by omega) (by omega)).mpr e) y
      · omega
    refine Pm_chk (fun _ _ => ?_)
    refine b3 m1 0 _ _ _ _ (by omega) hiw (Nat.zero_le _) (LEn_u (LEn_u hN ?_) rfl) x1 x2 x3 rfl n1 n2 c1 c2 hC
    rw [n1.2 12 (by decide), n2.2 12 (by decide), hP (f + i) (by omega)]
  refine Pm_suc rfl (fun k => by rw [x_literal]) (fun k => by rw [x_literal]) (fun m1 _ => ?_)
  show Pm m1 (fun k => x_literal k 1 L1 (mSc σ1 86 0)) (fun k => x_literal k 1 L2 (mSc σ2 86 0)) _
  refine Pm_suc rfl (fun k => by rw [x_literal]) (fun k => by rw [x_literal]) (fun m2 _ => ?_)
  exact b2 m2 0 0 _ _ _ _ (by omega) (Nat.zero_le _) (LEn_u hL rfl) d1 d2 rfl (NF_sc (by omega)) (NF_sc (by omega)) rfl rfl (fun i hi => absurd hi (Nat.not_lt_zero i))
/-- a whole as an int -/
theorem k_intOf {a1 a2 p : Nat} (hS1 : HS g1 l1 B1 h1 σ1) (hS2 : HS g2 l2 B2 h2 σ2) (hA : WhE σ1 σ2 a1 a2 p) {L1 L2 : Nat → Int32} {J1 J2 : Nat → Int64} (d1 : L1 1 = nI a1) (f1 : L2 1 = nI a2) (h2 : L1 2 = L2 2) : Pm n (fun k => x_intOf k 0 L1 J1 σ1) (fun k => x_intOf k 0 L2 J2 σ2) (fun r1 r2 => r1.1 = r2.1) := by
  have hp := hA.1.2.2.1
  have hp1 := hA.1.2.1
  have ha1 := hA.1.2.2.2.1
  have ha2 := hA.2.1.2.2.2.1
  have b8 : ∀ (m : Nat) (N1 N2 : Nat → Int32) (K1 K2 : Nat → Int64), N1 100 = N2 100 → Pm m (fun k => x_intOf k 8 N1 K1 σ1) (fun k => x_intOf k 8 N2 K2 σ2) (fun r1 r2 => r1.1 = r2.1) := fun m N1 N2 K1 K2 h => by
    refine Pm_suc rfl (fun k => by rw [x_intOf]) (fun k => by rw [x_intOf]) (fun m1 _ => ?_)
    exact Pm_some h
  have b6 : ∀ (m : Nat) (N1 N2 : Nat → Int32) (K1 K2 : Nat → Int64), N1 1 = nI a1 → N2 1 = nI a2 → N1 100 = N2 100 → Pm m (fun k => x_intOf k 6 N1 K1 σ1) (fun k => x_intOf k 6 N2 K2 σ2) (fun r1 r2 => r1.1 = r2.1) := fun m N1 N2 K1 K2 x1 x2 h => by
    refine Pm_suc rfl (fun k => by rw [x_intOf]) (fun k => by rw [x_intOf]) (fun m1 _ => ?_)
    refine Pm_ob (k_signOf hS1 hS2 hA (by exact x1) (by exact x2)) (fun z1 z2 hz => ?_)
    rw [hz.1, hz.2]
    refine Pm_ite Iff.rfl (fun _ _ => ?_) (fun _ _ => b8 m1 _ _ _ _ (by show - N1 100 = - N2 100; rw [h]))
    refine Pm_suc rfl (fun k => by rw [x_intOf]) (fun k => by rw [x_intOf]) (fun m2 _ => ?_)
    exact b8 m2 _ _ _ _ (by show N1 100 = N2 100; exact h)
  have b1 : ∀ (m i : Nat) (N1 N2 : Nat → Int32) (K1 K2 : Nat → Int64), i ≤ p - 1 → N1 1 = nI a1 → N2 1 = nI a2 → N1 2 = N2 2 → N1 6 = nI i - 1 → N2 6 = nI i - 1 → K1 4 = K2 4 → Pm m (fun k => x_intOf k 1 N1 K1 σ1) (fun k => x_intOf k 1 N2 K2 σ2) (fun r1 r2 => r1.1 = r2.1) := by
    intro m
    induction m using Nat.strongRecOn with
    | ind m ih =>
    intro i N1 N2 K1 K2 hi x1 x2 x3 x6 y6 hK
    refine Pm_suc rfl (fun k => by rw [x_intOf]) (fun k => by rw [x_intOf]) (fun m1 hm1 => ?_)
    rw [x6, y6]
    refine Pm_ite Iff.rfl (fun _ _ => ?_) (fun z _ => ?_)
    · refine Pm_suc rfl (fun k => by rw [x_intOf]) (fun k => by rw [x_intOf]) (fun m2 hm2 => ?_)
      refine Pm_ite (by rw [hK, x3]) (fun _ _ => ?_) (fun _ _ => b6 m2 _ _ _ _ x1 x2 (by show N1 2 + 1 = N2 2 + 1; rw [x3]))
      refine Pm_suc rfl (fun k => by rw [x_intOf]) (fun k => by rw [x_intOf]) (fun m3 hm3 => ?_)
      exact b6 m3 _ _ _ _ x1 x2 (by show (K1 4).toInt32 = (K2 4).toInt32; rw [hK])
    have hi1 : 1 ≤ i := by
      by_cases e : i = 0
      · exact absurd (by rw [e]; decide) z
      · omega
    obtain ⟨j, rfl⟩ : ∃ j, i = j + 1 := ⟨i - 1, by omega⟩
    have ej : nI (j + 1) - 1 = nI j := n_sub1 (by omega)
    rw [ej] at x6 y6
    have b3 : ∀ (m' : Nat) (U1 U2 : Nat → Int64), m' < m → U1 100 = U2 100 → Pm m' (fun k => x_intOf k 3 N1 U1 σ1) (fun k => x_intOf k 3 N2 U2 σ2) (fun r1 r2 => r1.1 = r2.1) := by
      intro m' U1 U2 hm' hU
      refine Pm_suc rfl (fun k => by rw [x_intOf]) (fun k => by rw [x_intOf]) (fun k1 hk1 => ?_)
      exact ih k1 (by omega) j _ _ _ _ (by omega) x1 x2 x3 (by show N1 6 + (-1) = _; rw [x6]; exact (Int32.sub_eq_add_neg _ _).symm) (by show N2 6 + (-1) = _; rw [y6]; exact (Int32.sub_eq_add_neg _ _).symm) hU
    refine Pm_ite (by rw [hK, x3]) (fun _ _ => ?_) (fun _ _ => b3 m1 _ _ (by omega) (by show K1 4 = K2 4; exact hK))
    refine Pm_suc rfl (fun k => by rw [x_intOf]) (fun k => by rw [x_intOf]) (fun m2 hm2 => ?_)
    rw [x1, x2, x6, y6, show nI a1 + 5 = nI (a1 + 5) from n_add (q := 5) (by omega), show nI a2 + 5 = nI (a2 + 5) from n_add (q := 5) (by omega), n_add (p := a1 + 5) (by omega), n_add (p := a2 + 5) (by omega), n_cl (p := a1 + 5 + j) (by omega), n_cl (p := a2 + 5 + j) (by omega)]
    refine Pm_chk (fun _ _ => ?_)
    refine b3 m2 _ _ (by omega) ?_
    have hc := hA.2.2 (j + 1) (by omega)
    show (K1 4 <<< _) ||| (σ1.2.2 28 (a1 + 5 + j)).toInt64 = (K2 4 <<< _) ||| (σ2.2.2 28 (a2 + 5 + j)).toInt64
    rw [hK, show a1 + 5 + j = a1 + 4 + (j + 1) by omega, show a2 + 5 + j = a2 + 4 + (j + 1) by omega, hc]
  refine Pm_suc rfl (fun k => by rw [x_intOf]) (fun k => by rw [x_intOf]) (fun m1 _ => ?_)
  rw [d1, f1, n_add1, n_add1, n_cl (p := a1 + 1) (by omega), n_cl (p := a2 + 1) (by omega), hA.1.1, hA.2.1.1, show nI p - 1 = nI (p - 1) from n_sub (p := p) (q := 1) (by omega) hp1]
  refine Pm_chk (fun _ _ => ?_)
  exact b1 m1 (p - 1) _ _ _ _ (Nat.le_refl _) d1 f1 h2 rfl rfl rfl
end KSM
end JnS161
section JnS162
/-! Two runs side by side (reference): powers. -/
section KRA
variable {g1 g2 : Nat → Prop} {l1 l2 : List Nat} {B1 h1 B2 h2 n : Nat} {σ1 σ2 : MS}
theorem KQ_same {K : Nat} {a b : Nat} (hS1 : HS g1 l1 B1 h1 σ1) (hS2 : HS g2 l2 B2 h2 σ2) (e : σ1.1 56 = 0 ↔ σ2.1 56 = 0) (ha : a < 1740000) (hb : b < 1740000) (hv : EVb (σ1.2.2 28) (σ2.2.2 28) a b) : KQ h1 h2 K (nI a, σ1) (nI b, σ2) := ⟨e, fun _ => ⟨a, b, rfl, rfl, ha, hb, hv⟩, h1, h2, hS1.2.2.1, hS2.2.2.1, by omega, by omega⟩
theorem EVb_0 {H1 H2 : Nat → Int32} {m : Nat} (hm : m < 3) : EVb H1 H2 m m := ⟨fun a b => a < 3 ∧ b = a, fun a b h => Or.inl h, hm, rfl⟩
/-- the powers' loop -/
theorem k_raise9 {a1 a2 p : Nat} (hS1 : HS g1 l1 B1 h1 σ1) (hS2 : HS g2 l2 B2 h2 σ2) (e1 : σ1.1 56 = 0) (e2 : σ2.1 56 = 0) (hr1 : h1 + 70 ≤ B1 + 870000) (hr2 : h2 + 70 ≤ B2 + 870000) (hA : WhE σ1 σ2 a1 a2 p) {L1 L2 : Nat → Int32} (d1 : L1 1 = nI a1) (f1 : L2 1 = nI a2) (hL : LE3 L1 L2) : Pm n (fun k => x_raise k 9 L1 σ1) (fun k => x_raise k 9 L2 σ2) (KQ h1 h2 70) := by
  have hp := hA.1.2.2.1
  -- with an error
  have er18 : ∀ (m : Nat) (N1 N2 : Nat → Int32) (τ1 τ2 : MS), τ1.1 56 = 5 → τ2.1 56 = 5 → τ1.1 55 = nI h1 → τ2.1 55 = nI h2 → Pm m (fun k => x_raise k 18 N1 τ1) (fun k => x_raise k 18 N2 τ2) (KQ h1 h2 70) := by
    intro m N1 N2 τ1 τ2 y1 y2 y3 y4
    refine Pm_suc rfl (fun k => by rw [x_raise]) (fun k => by rw [x_raise]) (fun m1 _ => ?_)
    rw [y1, y2]
    refine Pm_ite Iff.rfl (fun w _ => absurd w (by decide)) (fun _ _ => ?_)
    exact Pm_some (KQ_er (by rw [y1]; decide) (by rw [y2]; decide) y3 y4)
  have er15 : ∀ (m : Nat) (N1 N2 : Nat → Int32) (τ1 τ2 : MS), LE3 N1 N2 → τ1.1 86 = τ2.1 86 → τ1.1 56 = 5 → τ2.1 56 = 5 → τ1.1 55 = nI h1 → τ2.1 55 = nI h2 → Pm m (fun k => x_raise k 15 N1 τ1) (fun k => x_raise k 15 N2 τ2) (KQ h1 h2 70) := by
    intro m
    induction m using Nat.strongRecOn with
    | ind m ih =>
    intro N1 N2 τ1 τ2 hN y0 y1 y2 y3 y4
    refine Pm_suc rfl (fun k => by rw [x_raise]) (fun k => by rw [x_raise]) (fun m1 hm1 => ?_)
    rw [y0, hN 7 (by omega)]
    refine Pm_ite Iff.rfl (fun _ _ => ?_) (fun _ _ => ?_)
    · refine Pm_suc rfl (fun k => by rw [x_raise]) (fun k => by rw [x_raise]) (fun m2 hm2 => ?_)
      refine Pm_suc rfl (fun k => by rw [x_raise]) (fun k => by rw [x_raise]) (fun m3 hm3 => ?_)
      rw [y1, y2]
      refine Pm_ite (by show N1 3 ≤ N1 6 + 1 ↔ N2 3 ≤ N2 6 + 1; rw [hN 3 (by omega), hN 6 (by omega)]) (fun _ _ => er18 m3 _ _ _ _ y1 y2 y3 y4) (fun _ _ => ?_)
      exact Pm_ite Iff.rfl (fun w _ => absurd w (by decide)) (fun _ _ => er18 m3 _ _ _ _ y1 y2 y3 y4)
    · refine Pm_chk (fun _ _ => ?_)
      refine Pm_chk (fun _ _ => ?_)
      show Pm m1 (fun k => x_raise k 16 N1 (mAr τ1 47 (N2 7).toNatClampNeg _)) (fun k => x_raise k 16 N2 (mAr τ2 47 (N2 7).toNatClampNeg _)) _
      refine Pm_suc rfl (fun k => by rw [x_raise]) (fun k => by rw [x_raise]) (fun m2 hm2 => ?_)
      exact ih m2 (by omega) _ _ _ _ (LE_u hN (by rw [hN 7 (by omega)])) y0 y1 y2 y3 y4
  -- the end
  have b25 : ∀ (m c : Nat) (N1 N2 : Nat → Int32) (τ1 τ2 : MS), c ≤ 300 → LE3 N1 N2 → NF σ1 τ1 → NF σ2 τ2 → τ1.1 86 = nI c → τ2.1 86 = nI c → AgN (τ1.2.2 44) (τ2.2.2 44) c → Pm m (fun k => x_raise k 25 N1 τ1) (fun k => x_raise k 25 N2 τ2) (KQ h1 h2 70) := by
    intro m c N1 N2 τ1 τ2 hc hN n1 n2 c1 c2 hC
    refine Pm_suc rfl (fun k => by rw [x_raise]) (fun k => by rw [x_raise]) (fun m1 _ => ?_)
    exact Pm_ob (k_wholeOf (NF_HS n1 hS1) (NF_HS n2 hS2) ((n1.1 56 (by decide)).trans e1) ((n2.1 56 (by decide)).trans e2) hr1 hr2 hc c1 c2 hC (by exact hN 100 (by omega))) (fun r1 r2 hr => Pm_some hr)
  have b21 : ∀ (m c i : Nat) (N1 N2 : Nat → Int32) (τ1 τ2 : MS), c ≤ 128 → i ≤ c → LE3 N1 N2 → N1 1 = nI a1 → N2 1 = nI a2 → N1 5 = nI c → N1 6 = nI i → NF σ1 τ1 → NF σ2 τ2 → τ1.1 86 = nI c → τ2.1 86 = nI c → AgN (τ1.2.2 47) (τ2.2.2 47) c → AgN (τ1.2.2 44) (τ2.2.2 44) i → Pm m (fun k => x_raise k 21 N1 τ1) (fun k => x_raise k 21 N2 τ2) (KQ h1 h2 70) := by
    intro m
    induction m using Nat.strongRecOn with
    | ind m ih =>
    intro c i N1 N2 τ1 τ2 hc hi hN x1 x2 x5 x6 n1 n2 c1 c2 hR hC
    have y5 : N2 5 = nI c := (hN 5 (by omega)).symm.trans x5
    have y6 : N2 6 = nI i := (hN 6 (by omega)).symm.trans x6
    refine Pm_suc rfl (fun k => by rw [x_raise]) (fun k => by rw [x_raise]) (fun m1 hm1 => ?_)
    rw [x5, y5, x6, y6, n_cl (p := i) (by omega)]
    refine Pm_ite Iff.rfl (fun y _ => ?_) (fun y _ => ?_)
    · have y := (n_le (by omega) (by omega)).mp y
      have e : i = c := by omega
      rw [e] at hC
      have hU1 := NF_HS n1 hS1
      have hU2 := NF_HS n2 hS2
      refine Pm_suc rfl (fun k => by rw [x_raise]) (fun k => by rw [x_raise]) (fun m2 hm2 => ?_)
      refine Pm_ob (k_signOf hU1 hU2 (WhE_NF n1 n2 hA) (by exact x1) (by exact x2)) (fun z1 z2 hz => ?_)
      rw [hz.1, hz.2]
      have b24 : ∀ m', Pm m' (fun k => x_raise k 24 N1 τ1) (fun k => x_raise k 24 N2 τ2) (KQ h1 h2 70) := fun m' => by
        refine Pm_suc rfl (fun k => by rw [x_raise]) (fun k => by rw [x_raise]) (fun m3 hm3 => ?_)
        exact b25 m3 c _ _ _ _ (by omega) (LE_u hN rfl) n1 n2 c1 c2 hC
      refine Pm_ite Iff.rfl (fun _ _ => b24 m2) (fun _ _ => ?_)
      exact Pm_ite (by rw [hN 4 (by omega)]) (fun _ _ => b24 m2) (fun _ _ => b25 m2 c _ _ _ _ (by omega) (LE_u hN rfl) n1 n2 c1 c2 hC)
    have hic : i < c := by
      by_cases e : c ≤ i
      · exact absurd ((n_le (by omega) (by omega)).mpr e) y
      · omega
    refine Pm_chk (fun _ _ => ?_)
    refine Pm_chk (fun _ _ => ?_)
    show Pm m1 (fun k => x_raise k 22 N1 (mAr τ1 44 i (τ1.2.2 47 i))) (fun k => x_raise k 22 N2 (mAr τ2 44 i (τ2.2.2 47 i))) _
    refine Pm_suc rfl (fun k => by rw [x_raise]) (fun k => by rw [x_raise]) (fun m2 hm2 => ?_)
    refine ih m2 (by omega) c (i + 1) _ _ _ _ hc (by omega) (LE_u hN (by rw [hN 6 (by omega)])) x1 x2 x5 (by show N1 6 + 1 = _; rw [x6, n_add1]) (NF_tr n1 (NF_ar (by omega))) (NF_tr n2 (NF_ar (by omega))) c1 c2 ?_ ?_
    · rw [mAr_o (by decide), mAr_o (by decide)]; exact hR
    · rw [mAr_s, mAr_s]; exact AgN_up hC (hR i hic)
  have b18 : ∀ (m c : Nat) (N1 N2 : Nat → Int32) (τ1 τ2 : MS), c ≤ 128 → LE3 N1 N2 → N1 1 = nI a1 → N2 1 = nI a2 → N1 5 = nI c → NF σ1 τ1 → NF σ2 τ2 → AgN (τ1.2.2 47) (τ2.2.2 47) c → Pm m (fun k => x_raise k 18 N1 τ1) (fun k => x_raise k 18 N2 τ2) (KQ h1 h2 70) := by
    intro m c N1 N2 τ1 τ2 hc hN x1 x2 x5 n1 n2 hR
    have y5 : N2 5 = nI c := (hN 5 (by omega)).symm.trans x5
    refine Pm_suc rfl (fun k => by rw [x_raise]) (fun k => by rw [x_raise]) (fun m1 _ => ?_)
    rw [n1.1 56 (by decide), n2.1 56 (by decide), e1, e2]
    refine Pm_ite Iff.rfl (fun _ _ => ?_) (fun w _ => absurd (by decide) w)
    refine Pm_suc rfl (fun k => by rw [x_raise]) (fun k => by rw [x_raise]) (fun m2 _ => ?_)
    rw [x5, y5]
    show Pm m2 (fun k => x_raise k 20 N1 (mSc τ1 86 (nI c))) (fun k => x_raise k 20 N2 (mSc τ2 86 (nI c))) _
    refine Pm_suc rfl (fun k => by rw [x_raise]) (fun k => by rw [x_raise]) (fun m3 _ => ?_)
    exact b21 m3 c 0 _ _ _ _ hc (Nat.zero_le _) (LE_u hN rfl) x1 x2 x5 rfl (NF_tr n1 (NF_sc (by omega))) (NF_tr n2 (NF_sc (by omega))) rfl rfl hR (fun i hi => absurd hi (Nat.not_lt_zero i))
  -- one more factor
  have b13 : ∀ (m c : Nat) (N1 N2 : Nat → Int32) (τ1 τ2 : MS), c ≤ 64 → LE3 N1 N2 → N1 1 = nI a1 → N2 1 = nI a2 → N1 5 = nI c → NF σ1 τ1 → NF σ2 τ2 → τ1.1 84 = nI (p - 1) → τ2.1 84 = nI (p - 1) → AgN (τ1.2.2 42) (τ2.2.2 42) (p - 1) → AgN (τ1.2.2 47) (τ2.2.2 47) c → Pm m (fun k => x_raise k 13 N1 τ1) (fun k => x_raise k 13 N2 τ2) (KQ h1 h2 70) := by
    intro m
    induction m using Nat.strongRecOn with
    | ind m ih =>
    intro c N1 N2 τ1 τ2 hc hN x1 x2 x5 n1 n2 p1 p2 hP hR
    have y5 : N2 5 = nI c := (hN 5 (by omega)).symm.trans x5
    refine Pm_suc rfl (fun k => by rw [x_raise]) (fun k => by rw [x_raise]) (fun m1 hm1 => ?_)
    rw [n1.1 56 (by decide), n2.1 56 (by decide), e1, e2, hN 3 (by omega), hN 6 (by omega), x5, y5]
    refine Pm_ite Iff.rfl (fun _ _ => b18 m1 c _ _ _ _ (by omega) hN x1 x2 x5 n1 n2 hR) (fun _ _ => ?_)
    refine Pm_ite Iff.rfl (fun _ _ => ?_) (fun w _ => absurd rfl w)
    refine Pm_ob (k_rowsTimes (p := c) (q := p - 1) (by omega) (by omega) p1 p2 hR hP rfl rfl) (fun r1 r2 hr => ?_)
    obtain ⟨q1, q2, ⟨d, d0, d1', d2', d3⟩, q4, q5, q6, q7⟩ := hr
    rw [d1', d2']
    have b15 : ∀ (m' i : Nat) (M1 M2 : Nat → Int32) (υ1 υ2 : MS), m' < m → i ≤ d → d ≤ 64 → LE3 M1 M2 → M1 1 = nI a1 → M2 1 = nI a2 → M1 5 = nI d → M1 7 = nI i → NF σ1 υ1 → NF σ2 υ2 → υ1.1 84 = nI (p - 1) → υ2.1 84 = nI (p - 1) → υ1.1 86 = nI d → υ2.1 86 = nI d → AgN (υ1.2.2 42) (υ2.2.2 42) (p - 1) → AgN (υ1.2.2 44) (υ2.2.2 44) d → AgN (υ1.2.2 47) (υ2.2.2 47) i → Pm m' (fun k => x_raise k 15 M1 υ1) (fun k => x_raise k 15 M2 υ2) (KQ h1 h2 70) := by
      intro m'
      induction m' using Nat.strongRecOn with
      | ind m' ihj =>
      intro i M1 M2 υ1 υ2 hm' hi hd hM z1 z2 z5 z7 n1 n2 p1 p2 c1 c2 hP hC hR
      have w7 : M2 7 = nI i := (hM 7 (by omega)).symm.trans z7
      refine Pm_suc rfl (fun k => by rw [x_raise]) (fun k => by rw [x_raise]) (fun k1 hk1 => ?_)
      rw [c1, c2, z7, w7, n_cl (p := i) (by omega)]
      refine Pm_ite Iff.rfl (fun y _ => ?_) (fun y _ => ?_)
      · have y := (n_le (by omega) (by omega)).mp y
        have e : i = d := by omega
        rw [e] at hR
        refine Pm_suc rfl (fun k => by rw [x_raise]) (fun k => by rw [x_raise]) (fun k2 hk2 => ?_)
        exact ih k2 (by omega) d _ _ _ _ hd (LE_u hM (by rw [hM 6 (by omega)])) z1 z2 z5 n1 n2 p1 p2 hP hR
      have hid : i < d := by
        by_cases e : d ≤ i
        · exact absurd ((n_le (by omega) (by omega)).mpr e) y
        · omega
      refine Pm_chk (fun _ _ => ?_)
      refine Pm_chk (fun _ _ => ?_)
      show Pm k1 (fun k => x_raise k 16 M1 (mAr υ1 47 i (υ1.2.2 44 i))) (fun k => x_raise k 16 M2 (mAr υ2 47 i (υ2.2.2 44 i))) _
      refine Pm_suc rfl (fun k => by rw [x_raise]) (fun k => by rw [x_raise]) (fun k2 hk2 => ?_)
      refine ihj k2 (by omega) (i + 1) _ _ _ _ (by omega) (by omega) hd (LE_u hM (by rw [hM 7 (by omega)])) z1 z2 z5 (by show M1 7 + 1 = _; rw [z7, n_add1]) (NF_tr n1 (NF_ar (by omega))) (NF_tr n2 (NF_ar (by omega))) p1 p2 c1 c2 ?_ ?_ ?_
      · rw [mAr_o (by decide), mAr_o (by decide)]; exact hP
      · rw [mAr_o (by decide), mAr_o (by decide)]; exact hC
      · rw [mAr_s, mAr_s]; exact AgN_up hR (hC i hid)
    have nn1 := NF_tr n1 q1
    have nn2 := NF_tr n2 q2
    refine Pm_ite Iff.rfl (fun y _ => ?_) (fun y _ => ?_)
    · have hd := (n_le (q := 64) (by omega) (by decide)).mp y
      refine Pm_suc rfl (fun k => by rw [x_raise]) (fun k => by rw [x_raise]) (fun m2 hm2 => ?_)
      rw [d1', d2']
      exact b15 m2 0 _ _ _ _ (by omega) (Nat.zero_le _) hd (LE_u (LE_u hN rfl) rfl) x1 x2 rfl rfl nn1 nn2 q6 q7 d1' d2' (by rw [q4, q5]; exact hP) d3 (fun i hi => absurd hi (Nat.not_lt_zero i))
    · refine Pm_ob (Pm_t2 (s_fail _ r1.2) (fun k => f_fail k _ _ _) (s_fail _ r2.2) (fun k => f_fail k _ _ _)) (fun s1 s2 hs => ?_)
      rw [hs.1, hs.2]
      have t56 : ∀ {σ τ : MS}, NF σ τ → σ.1 56 = 0 → (mEr τ ((upd (fun _ => 0) 1 5 : Nat → Int32) 1)).1 56 = 5 := fun hn he => by
        rw [mEr_56, if_pos ((hn.1 56 (by decide)).trans he)]; rfl
      refine Pm_suc rfl (fun k => by rw [x_raise]) (fun k => by rw [x_raise]) (fun m2 hm2 => ?_)
      rw [show (mEr r1.2 ((upd (fun _ => 0) 1 5 : Nat → Int32) 1)).1 86 = nI d from (mEr_s (by decide)).trans d1', show (mEr r2.2 ((upd (fun _ => 0) 1 5 : Nat → Int32) 1)).1 86 = nI d from (mEr_s (by decide)).trans d2']
      refine er15 m2 _ _ _ _ (LE_u (LE_u hN rfl) rfl) ?_ (t56 nn1 e1) (t56 nn2 e2) ?_ ?_
      · exact ((mEr_s (by decide)).trans d1').trans ((mEr_s (by decide)).trans d2').symm
      · exact (mEr_s (by decide)).trans ((nn1.1 55 (by decide)).trans hS1.2.2.1)
      · exact (mEr_s (by decide)).trans ((nn2.1 55 (by decide)).trans hS2.2.2.1)
  have b10 : ∀ (m i : Nat) (N1 N2 : Nat → Int32) (τ1 τ2 : MS), i ≤ p - 1 → LE3 N1 N2 → N1 1 = nI a1 → N2 1 = nI a2 → N1 5 = nI (p - 1) → N1 6 = nI i → NF σ1 τ1 → NF σ2 τ2 → τ1.1 84 = nI (p - 1) → τ2.1 84 = nI (p - 1) → AgN (τ1.2.2 42) (τ2.2.2 42) (p - 1) → AgN (τ1.2.2 47) (τ2.2.2 47) i → Pm m (fun k => x_raise k 10 N1 τ1) (fun k => x_raise k 10 N2 τ2) (KQ h1 h2 70) := by
    intro m
    induction m using Nat.strongRecOn with
    | ind m ih =>
    intro i N1 N2 τ1 τ2 hi hN x1 x2 x5 x6 n1 n2 p1 p2 hP hR
    have y6 : N2 6 = nI i := (hN 6 (by omega)).symm.trans x6
    refine Pm_suc rfl (fun k => by rw [x_raise]) (fun k => by rw [x_raise]) (fun m1 hm1 => ?_)
    rw [p1, p2, x6, y6, n_cl (p := i) (by omega)]
    refine Pm_ite Iff.rfl (fun y _ => ?_) (fun y _ => ?_)
    · have y := (n_le (by omega) (by omega)).mp y
      have e : i = p - 1 := by omega
      rw [e] at hR
      refine Pm_suc rfl (fun k => by rw [x_raise]) (fun k => by rw [x_raise]) (fun m2 hm2 => ?_)
      exact b13 m2 (p - 1) _ _ _ _ (by omega) (LE_u hN rfl) x1 x2 x5 n1 n2 p1 p2 hP hR
    have hip : i < p - 1 := by
      by_cases e : p - 1 ≤ i
      · exact absurd ((n_le (by omega) (by omega)).mpr e) y
      · omega
    refine Pm_chk (fun _ _ => ?_)
    refine Pm_chk (fun _ _ => ?_)
    show Pm m1 (fun k => x_raise k 11 N1 (mAr τ1 47 i (τ1.2.2 42 i))) (fun k => x_raise k 11 N2 (mAr τ2 47 i (τ2.2.2 42 i))) _
    refine Pm_suc rfl (fun k => by rw [x_raise]) (fun k => by rw [x_raise]) (fun m2 hm2 => ?_)
    refine ih m2 (by omega) (i + 1) _ _ _ _ (by omega) (LE_u hN (by rw [hN 6 (by omega)])) x1 x2 x5 (by show N1 6 + 1 = _; rw [x6, n_add1]) (NF_tr n1 (NF_ar (by omega))) (NF_tr n2 (NF_ar (by omega))) p1 p2 ?_ ?_
    · rw [mAr_o (by decide), mAr_o (by decide)]; exact hP
    · rw [mAr_s, mAr_s]; exact AgN_up hR (hP i hip)
  refine Pm_suc rfl (fun k => by rw [x_raise]) (fun k => by rw [x_raise]) (fun m1 _ => ?_)
  refine Pm_ob (k_loadA hS1 hS2 hA (by exact d1) (by exact f1)) (fun r1 r2 hr => ?_)
  obtain ⟨q1, q2, q3, q4, q5⟩ := hr
  rw [q3, q4]
  exact b10 m1 0 _ _ _ _ (Nat.zero_le _) (LE_u (LE_u hL rfl) rfl) d1 f1 rfl rfl q1 q2 q3 q4 q5 (fun i hi => absurd hi (Nat.not_lt_zero i))
theorem k_raise {a1 a2 b1 b2 p q : Nat} (hS1 : HS g1 l1 B1 h1 σ1) (hS2 : HS g2 l2 B2 h2 σ2) (e1 : σ1.1 56 = 0) (e2 : σ2.1 56 = 0) (hr1 : h1 + 70 ≤ B1 + 870000) (hr2 : h2 + 70 ≤ B2 + 870000) (hA : WhE σ1 σ2 a1 a2 p) (hB : WhE σ1 σ2 b1 b2 q) (hv : EVb (σ1.2.2 28) (σ2.2.2 28) a1 a2) {L1 L2 : Nat → Int32} (d1 : L1 1 = nI a1) (d2 : L1 2 = nI b1) (f1 : L2 1 = nI a2) (f2 : L2 2 = nI b2) (hL : LE3 L1 L2) : Pm n (fun k => x_raise k 0 L1 σ1) (fun k => x_raise k 0 L2 σ2) (KQ h1 h2 70) := by
  have hp := hA.1.2.2.1
  have hp1 := hA.1.2.1
  have ha1 := hA.1.2.2.2.1
  have ha2 := hA.2.1.2.2.2.1
  have hq := hB.1.2.2.1
  have hq1 := hB.1.2.1
  have hb1 := hB.1.2.2.2.1
  have hb2 := hB.2.1.2.2.2.1
  have sm : ∀ m, Pm m (fun k => x_small k 0 (upd (fun _ => 0) 1 1) σ1) (fun k => x_small k 0 (upd (fun _ => 0) 1 1) σ2) (KQ h1 h2 70) := fun m => k_small hS1 hS2 e1 e2 hr1 hr2 (fun i hi => rfl)
  have b5 : ∀ (m : Nat) (N1 N2 : Nat → Int32), N1 1 = nI a1 → N2 1 = nI a2 → LE3 N1 N2 → Pm m (fun k => x_raise k 5 N1 σ1) (fun k => x_raise k 5 N2 σ2) (KQ h1 h2 70) := by
    intro m N1 N2 x1 x2 hN
    have b6 : ∀ m', Pm m' (fun k => x_raise k 6 N1 σ1) (fun k => x_raise k 6 N2 σ2) (KQ h1 h2 70) := fun m' => by
      refine Pm_suc rfl (fun k => by rw [x_raise]) (fun k => by rw [x_raise]) (fun m2 _ => ?_)
      refine Pm_suc rfl (fun k => by rw [x_raise]) (fun k => by rw [x_raise]) (fun m3 _ => ?_)
      rw [show upd N1 100 (N1 1) 100 = nI a1 from x1, show upd N2 100 (N2 1) 100 = nI a2 from x2]
      exact Pm_some (KQ_same hS1 hS2 (by rw [e1, e2]) (by omega) (by omega) hv)
    refine Pm_suc rfl (fun k => by rw [x_raise]) (fun k => by rw [x_raise]) (fun m1 _ => ?_)
    refine Pm_ob (k_signOf hS1 hS2 hA (by exact x1) (by exact x2)) (fun z1 z2 hz => ?_)
    rw [hz.1, hz.2]
    refine Pm_ite Iff.rfl (fun _ _ => b6 m1) (fun _ _ => ?_)
    refine Pm_ite (by rw [hN 4 (by omega)]) (fun _ _ => ?_) (fun _ _ => b6 m1)
    refine Pm_suc rfl (fun k => by rw [x_raise]) (fun k => by rw [x_raise]) (fun m2 _ => ?_)
    refine Pm_ob (sm m2) (fun r1 r2 hr => ?_)
    refine Pm_suc rfl (fun k => by rw [x_raise]) (fun k => by rw [x_raise]) (fun m3 _ => ?_)
    exact Pm_some hr
  have b4 : ∀ (m : Nat) (N1 N2 : Nat → Int32), N1 1 = nI a1 → N2 1 = nI a2 → LE3 N1 N2 → Pm m (fun k => x_raise k 4 N1 σ1) (fun k => x_raise k 4 N2 σ2) (KQ h1 h2 70) := by
    intro m N1 N2 x1 x2 hN
    have hN4 : LE3 (upd N1 4 (N1 100)) (upd N2 4 (N2 100)) := LE_u hN (hN 100 (by omega))
    have go9 := fun m' => k_raise9 (n := m') hS1 hS2 e1 e2 hr1 hr2 hA (L1 := upd N1 4 (N1 100)) (L2 := upd N2 4 (N2 100)) x1 x2 hN4
    refine Pm_suc rfl (fun k => by rw [x_raise]) (fun k => by rw [x_raise]) (fun m1 _ => ?_)
    rw [x1, x2, n_add1, n_add1, show nI a1 + 5 = nI (a1 + 5) from n_add (q := 5) (by omega), show nI a2 + 5 = nI (a2 + 5) from n_add (q := 5) (by omega), n_cl (p := a1 + 1) (by omega), n_cl (p := a2 + 1) (by omega), n_cl (p := a1 + 5) (by omega), n_cl (p := a2 + 5) (by omega), hA.1.1, hA.2.1.1]
    refine Pm_chk (fun _ _ => ?_)
    refine Pm_ite Iff.rfl (fun _ _ => b5 m1 _ _ x1 x2 hN4) (fun _ _ => ?_)
    refine Pm_chk (fun _ _ => ?_)
    refine Pm_ite Iff.rfl (fun z _ => ?_) (fun _ _ => go9 m1)
    have z := (n_eq (q := 2) (by omega) (by decide)).mp z
    have hc : σ2.2.2 28 (a2 + 5) = σ1.2.2 28 (a1 + 5) := hA.2.2 1 (by omega)
    refine Pm_chk (fun _ _ => ?_)
    exact Pm_ite (by rw [hc]) (fun _ _ => b5 m1 _ _ x1 x2 hN4) (fun _ _ => go9 m1)
  refine Pm_suc rfl (fun k => by rw [x_raise]) (fun k => by rw [x_raise]) (fun m1 _ => ?_)
  refine Pm_ob (k_signOf hS1 hS2 hB (by exact d2) (by exact f2)) (fun z1 z2 hz => ?_)
  rw [hz.1, hz.2]
  refine Pm_ite Iff.rfl (fun _ _ => ?_) (fun _ _ => ?_)
  case refine_2 =>
    refine Pm_ob (Pm_t2 (s_fail _ σ1) (fun k => f_fail k _ _ _) (s_fail _ σ2) (fun k => f_fail k _ _ _)) (fun s1 s2 hs => ?_)
    rw [hs.1, hs.2]
    exact Pm_some (KQ_er (mEr_e (by decide)) (mEr_e (by decide)) ((mEr_s (by decide)).trans hS1.2.2.1) ((mEr_s (by decide)).trans hS2.2.2.1))
  refine Pm_suc rfl (fun k => by rw [x_raise]) (fun k => by rw [x_raise]) (fun m2 _ => ?_)
  refine Pm_ob (Pm_un (s_intOf (b := 5000) hS1 hB.1 (by decide) (by exact d2) rfl) (fun k => f_intOf k _ _ _ _) (s_intOf (b := 5000) hS2 hB.2.1 (by decide) (by exact f2) rfl) (fun k => f_intOf k _ _ _ _) (k_intOf hS1 hS2 hB (by exact d2) (by exact f2) rfl)) (fun r1 r2 hr => ?_)
  obtain ⟨hr0, ⟨hr1', _⟩, ⟨hr2', _⟩⟩ := hr
  rw [hr0, hr1', hr2']
  refine Pm_ite Iff.rfl (fun _ _ => Pm_ob (sm m2) (fun s1 s2 hs => Pm_some hs)) (fun _ _ => ?_)
  have hL3 : LE3 (upd L1 3 r2.1) (upd L2 3 r2.1) := LE_u hL rfl
  refine Pm_suc rfl (fun k => by rw [x_raise]) (fun k => by rw [x_raise]) (fun m3 _ => ?_)
  rw [show upd L1 3 r2.1 2 = nI b1 from d2, show upd L2 3 r2.1 2 = nI b2 from f2, n_add1, n_add1, show nI b1 + 5 = nI (b1 + 5) from n_add (q := 5) (by omega), show nI b2 + 5 = nI (b2 + 5) from n_add (q := 5) (by omega), n_cl (p := b1 + 1) (by omega), n_cl (p := b2 + 1) (by omega), n_cl (p := b1 + 5) (by omega), n_cl (p := b2 + 5) (by omega), hB.1.1, hB.2.1.1]
  have b3 : ∀ m', Pm m' (fun k => x_raise k 3 (upd L1 3 r2.1) σ1) (fun k => x_raise k 3 (upd L2 3 r2.1) σ2) (KQ h1 h2 70) := fun m' => by
    refine Pm_suc rfl (fun k => by rw [x_raise]) (fun k => by rw [x_raise]) (fun m4 _ => ?_)
    exact b4 m4 _ _ d1 f1 (LE_u hL3 rfl)
  refine Pm_chk (fun _ _ => ?_)
  refine Pm_ite Iff.rfl (fun _ _ => b3 m3) (fun z _ => ?_)
  have hq2 : 2 ≤ q := by
    by_cases e : q ≤ 1
    · exact absurd ((n_le (q := 1) (by omega) (by decide)).mpr e) z
    · omega
  have hc : σ2.2.2 28 (b2 + 5) = σ1.2.2 28 (b1 + 5) := hB.2.2 1 (by omega)
  refine Pm_chk (fun _ _ => ?_)
  exact Pm_ite (by rw [hc]) (fun _ _ => b4 m3 _ _ d1 f1 (LE_u hL3 rfl)) (fun _ _ => b3 m3)
end KRA
end JnS162
section JnS163
/-! Two runs side by side (reference): quotients and remainders. -/
def DA (σ1 σ2 : MS) (na nb r : Nat) (τ1 τ2 : MS) : Prop := NF σ1 τ1 ∧ NF σ2 τ2 ∧ τ1.1 84 = nI na ∧ τ2.1 84 = nI na ∧ τ1.1 85 = nI nb ∧ τ2.1 85 = nI nb ∧ τ1.1 89 = nI na ∧ τ2.1 89 = nI na ∧ τ1.1 90 = nI r ∧ τ2.1 90 = nI r ∧ AgN (τ1.2.2 42) (τ2.2.2 42) na ∧ AgN (τ1.2.2 43) (τ2.2.2 43) nb ∧ AgN (τ1.2.2 45) (τ2.2.2 45) na ∧ AgN (τ1.2.2 46) (τ2.2.2 46) r
section KDV
variable {g1 g2 : Nat → Prop} {l1 l2 : List Nat} {B1 h1 B2 h2 n : Nat} {σ1 σ2 : MS}
theorem k_cmpR46 {p q : Nat} (hp : p ≤ 140) (hpq : p ≤ 140) (hq : q ≤ 140) (hA : AgN (σ1.2.2 46) (σ2.2.2 46) p) (hB : AgN (σ1.2.2 43) (σ2.2.2 43) q) {L1 L2 : Nat → Int32} (e1 : L1 1 = nI p) (e2 : L2 1 = nI p) (f1 : L1 3 = nI q) (f2 : L2 3 = nI q) : Pm n (fun k => x_compareRows__46__43 k 0 L1 σ1) (fun k => x_compareRows__46__43 k 0 L2 σ2) (fun r1 r2 => r1.1 = r2.1 ∧ r1.2 = σ1 ∧ r2.2 = σ2) := by
  have lp : ∀ (m i : Nat) (N1 N2 : Nat → Int32), i ≤ p → N1 4 = N2 4 → (N1 4 = 0 → p = q) → N1 5 = nI i - 1 → N2 5 = nI i - 1 → Pm m (fun k => x_compareRows__46__43 k 1 N1 σ1) (fun k => x_compareRows__46__43 k 1 N2 σ2) (fun r1 r2 => r1.1 = r2.1 ∧ r1.2 = σ1 ∧ r2.2 = σ2) := by
    intro m
    induction m using Nat.strongRecOn with
    | ind m ih =>
    intro i N1 N2 hi n4 hpq n5 o5
    have b2 : ∀ m', Pm m' (fun k => x_compareRows__46__43 k 2 N1 σ1) (fun k => x_compareRows__46__43 k 2 N2 σ2) (fun r1 r2 => r1.1 = r2.1 ∧ r1.2 = σ1 ∧ r2.2 = σ2) := fun m' => by
      refine Pm_suc rfl (fun k => by rw [x_compareRows__46__43]) (fun k => by rw [x_compareRows__46__43]) (fun m'' _ => ?_)
      exact Pm_some ⟨n4, rfl, rfl⟩
    refine Pm_suc rfl (fun k => by rw [x_compareRows__46__43]) (fun k => by rw [x_compareRows__46__43]) (fun m1 hm1 => ?_)
    rw [n5, o5]
    refine Pm_ite Iff.rfl (fun _ _ => b2 m1) (fun z _ => ?_)
    refine Pm_ite (by rw [n4]) (fun z4 _ => ?_) (fun _ _ => b2 m1)
    have hi1 : 1 ≤ i := by
      by_cases e : i = 0
      · exact absurd (by rw [e]; decide) z
      · omega
    obtain ⟨j, rfl⟩ : ∃ j, i = j + 1 := ⟨i - 1, by omega⟩
    rw [show nI (j + 1) - 1 = nI j from n_sub1 (by omega), n_cl (p := j) (by omega)]
    have epq := hpq z4
    refine Pm_chk (fun _ _ => ?_)
    refine Pm_chk (fun _ _ => ?_)
    refine ih m1 (by omega) j _ _ (by omega) ?_ (fun _ => epq) ?_ ?_
    · show σ1.2.2 46 j - σ1.2.2 43 j = σ2.2.2 46 j - σ2.2.2 43 j
      rw [hA j (by omega), hB j (by omega)]
    · show nI j + (-1) = nI j - 1
      exact (Int32.sub_eq_add_neg _ _).symm
    · show nI j + (-1) = nI j - 1
      exact (Int32.sub_eq_add_neg _ _).symm
  refine Pm_suc rfl (fun k => by rw [x_compareRows__46__43]) (fun k => by rw [x_compareRows__46__43]) (fun m1 _ => ?_)
  rw [e1, e2, f1, f2]
  exact lp m1 p _ _ (Nat.le_refl _) rfl (fun z => (n_sub0 (by omega) (by omega)).mp z) rfl rfl
theorem DA_46 {na nb r i : Nat} {τ1 τ2 : MS} {x y : Int32} (h : DA σ1 σ2 na nb r τ1 τ2) (e : x = y) : DA σ1 σ2 na nb r (mAr τ1 46 i x) (mAr τ2 46 i y) := by
  obtain ⟨a1, a2, a3, a4, a5, a6, a7, a8, a9, a10, a11, a12, a13, a14⟩ := h
  refine ⟨NF_tr a1 (NF_ar (by omega)), NF_tr a2 (NF_ar (by omega)), a3, a4, a5, a6, a7, a8, a9, a10, ?_, ?_, ?_, ?_⟩
  · rw [mAr_o (by decide), mAr_o (by decide)]; exact a11
  · rw [mAr_o (by decide), mAr_o (by decide)]; exact a12
  · rw [mAr_o (by decide), mAr_o (by decide)]; exact a13
  · rw [mAr_s, mAr_s]; exact AgN_st a14 e
theorem DA_45 {na nb r i : Nat} {τ1 τ2 : MS} {x y : Int32} (h : DA σ1 σ2 na nb r τ1 τ2) (e : x = y) : DA σ1 σ2 na nb r (mAr τ1 45 i x) (mAr τ2 45 i y) := by
  obtain ⟨a1, a2, a3, a4, a5, a6, a7, a8, a9, a10, a11, a12, a13, a14⟩ := h
  refine ⟨NF_tr a1 (NF_ar (by omega)), NF_tr a2 (NF_ar (by omega)), a3, a4, a5, a6, a7, a8, a9, a10, ?_, ?_, ?_, ?_⟩
  · rw [mAr_o (by decide), mAr_o (by decide)]; exact a11
  · rw [mAr_o (by decide), mAr_o (by decide)]; exact a12
  · rw [mAr_s, mAr_s]; exact AgN_st a13 e
  · rw [mAr_o (by decide), mAr_o (by decide)]; exact a14
theorem DA_90 {na nb r r' : Nat} {τ1 τ2 : MS} (h : DA σ1 σ2 na nb r τ1 τ2) (hr : AgN (τ1.2.2 46) (τ2.2.2 46) r') : DA σ1 σ2 na nb r' (mSc τ1 90 (nI r')) (mSc τ2 90 (nI r')) := by
  obtain ⟨a1, a2, a3, a4, a5, a6, a7, a8, a9, a10, a11, a12, a13, a14⟩ := h
  exact ⟨NF_tr a1 (NF_sc (by omega)), NF_tr a2 (NF_sc (by omega)), a3, a4, a5, a6, a7, a8, rfl, rfl, a11, a12, a13, hr⟩
theorem n_lt140 {c : Nat} (hc : c ≤ 140) (h : ¬ (nI c < 0 ∨ 140 ≤ (nI c).toNatClampNeg)) : c < 140 := by
  rw [n_cl (by omega)] at h
  by_cases e : c < 140
  · exact e
  · exact absurd (Or.inr (by omega)) h
/-- rows are divided, bit by bit -/
theorem k_dr6 {na nb : Nat} (hna : na ≤ 64) (hnb : nb ≤ 64) : ∀ (m c r : Nat) (N : Nat → Int32) (τ1 τ2 : MS), c ≤ 16 * na → r ≤ 140 → N 1 = nI c - 1 → DA σ1 σ2 na nb r τ1 τ2 → Pm m (fun k => x_divideRows k 6 N τ1) (fun k => x_divideRows k 6 N τ2) (fun r1 r2 => ∃ r, r ≤ 140 ∧ DA σ1 σ2 na nb r r1.2 r2.2) := by
  intro m
  induction m using Nat.strongRecOn with
  | ind m ih =>
  intro c r N τ1 τ2 hc hr n1 hD
  refine Pm_suc rfl (fun k => by rw [x_divideRows]) (fun k => by rw [x_divideRows]) (fun k1 hk1 => ?_)
  rw [n1]
  refine Pm_ite Iff.rfl (fun _ _ => ?_) (fun z _ => ?_)
  · refine Pm_suc rfl (fun k => by rw [x_divideRows]) (fun k => by rw [x_divideRows]) (fun k2 hk2 => ?_)
    exact Pm_some ⟨r, hr, hD⟩
  have hc1 : 1 ≤ c := by
    by_cases e : c = 0
    · exact absurd (by rw [e]; decide) z
    · omega
  obtain ⟨b, rfl⟩ : ∃ b, c = b + 1 := ⟨c - 1, by omega⟩
  have eb : nI (b + 1) - 1 = nI b := n_sub1 (by omega)
  rw [eb] at n1
  rw [eb, n_shr4 (by omega), n_cl (p := b / 16) (by omega)]
  have hb16 : b / 16 < na := by omega
  have b20 : ∀ (m' r : Nat) (M : Nat → Int32) (υ1 υ2 : MS), m' < m → r ≤ 140 → M 1 = nI b → DA σ1 σ2 na nb r υ1 υ2 → Pm m' (fun k => x_divideRows k 20 M υ1) (fun k => x_divideRows k 20 M υ2) (fun r1 r2 => ∃ r, r ≤ 140 ∧ DA σ1 σ2 na nb r r1.2 r2.2) := by
    intro m' r M υ1 υ2 hm' hr m1 hD
    refine Pm_suc rfl (fun k => by rw [x_divideRows]) (fun k => by rw [x_divideRows]) (fun k2 hk2 => ?_)
    exact ih k2 (by omega) b r _ _ _ (by omega) hr (by show M 1 + (-1) = _; rw [m1]; exact (Int32.sub_eq_add_neg _ _).symm) hD
  have b19 : ∀ (m' r : Nat) (M : Nat → Int32) (υ1 υ2 : MS), m' < m → r ≤ 140 → M 1 = nI b → DA σ1 σ2 na nb r υ1 υ2 → Pm m' (fun k => x_divideRows k 19 M υ1) (fun k => x_divideRows k 19 M υ2) (fun r1 r2 => ∃ r, r ≤ 140 ∧ DA σ1 σ2 na nb r r1.2 r2.2) := by
    intro m' r M υ1 υ2 hm' hr m1 hD
    refine Pm_suc rfl (fun k => by rw [x_divideRows]) (fun k => by rw [x_divideRows]) (fun k2 hk2 => ?_)
    rw [m1, n_shr4 (by omega), n_cl (p := b / 16) (by omega)]
    refine Pm_chk (fun _ _ => ?_)
    refine Pm_chk (fun _ _ => ?_)
    have e45 : υ1.2.2 45 (b / 16) = υ2.2.2 45 (b / 16) := hD.2.2.2.2.2.2.2.2.2.2.2.2.1 _ hb16
    rw [e45]
    show Pm k2 (fun k => x_divideRows k 20 M (mAr υ1 45 (b / 16) _)) (fun k => x_divideRows k 20 M (mAr υ2 45 (b / 16) _)) _
    exact b20 k2 r _ _ _ (by omega) hr m1 (DA_45 hD rfl)
  have b18 : ∀ (r m' : Nat) (M : Nat → Int32) (υ1 υ2 : MS), m' < m → r ≤ 140 → M 1 = nI b → DA σ1 σ2 na nb r υ1 υ2 → Pm m' (fun k => x_divideRows k 18 M υ1) (fun k => x_divideRows k 18 M υ2) (fun r1 r2 => ∃ r, r ≤ 140 ∧ DA σ1 σ2 na nb r r1.2 r2.2) := by
    intro r
    induction r with
    | zero =>
      intro m' M υ1 υ2 hm' hr m1 hD
      have x1 := hD.2.2.2.2.2.2.2.2.1
      have x2 := hD.2.2.2.2.2.2.2.2.2.1
      refine Pm_suc rfl (fun k => by rw [x_divideRows]) (fun k => by rw [x_divideRows]) (fun k2 hk2 => ?_)
      rw [x1, x2]
      exact Pm_ite Iff.rfl (fun _ _ => b19 k2 0 _ _ _ (by omega) hr m1 hD) (fun w _ => absurd (by decide) w)
    | succ r ihr =>
      intro m' M υ1 υ2 hm' hr m1 hD
      have x1 := hD.2.2.2.2.2.2.2.2.1
      have x2 := hD.2.2.2.2.2.2.2.2.2.1
      have x3 := hD.2.2.2.2.2.2.2.2.2.2.2.2.2
      refine Pm_suc rfl (fun k => by rw [x_divideRows]) (fun k => by rw [x_divideRows]) (fun k2 hk2 => ?_)
      rw [x1, x2, show nI (r + 1) - 1 = nI r from n_sub1 (by omega), n_cl (p := r) (by omega)]
      refine Pm_ite Iff.rfl (fun _ _ => b19 k2 (r + 1) _ _ _ (by omega) hr m1 hD) (fun _ _ => ?_)
      refine Pm_chk (fun _ _ => ?_)
      refine Pm_ite (by rw [x3 r (by omega)]) (fun _ _ => ?_) (fun _ _ => b19 k2 (r + 1) _ _ _ (by omega) hr m1 hD)
      show Pm k2 (fun k => x_divideRows k 18 M (mSc υ1 90 (nI r))) (fun k => x_divideRows k 18 M (mSc υ2 90 (nI r))) _
      exact ihr k2 M _ _ (by omega) (by omega) m1 (DA_90 hD (AgN_mo x3 (by omega)))
  have b12 : ∀ (m' r i : Nat) (M : Nat → Int32) (υ1 υ2 : MS), m' < m → r ≤ 140 → i ≤ r → M 1 = nI b → M 4 = nI i → DA σ1 σ2 na nb r υ1 υ2 → Pm m' (fun k => x_divideRows k 12 M υ1) (fun k => x_divideRows k 12 M υ2) (fun r1 r2 => ∃ r, r ≤ 140 ∧ DA σ1 σ2 na nb r r1.2 r2.2) := by
    intro m'
    induction m' using Nat.strongRecOn with
    | ind m' ihi =>
    intro r i M υ1 υ2 hm' hr hi m1 m4 hD
    have x1 := hD.2.2.2.2.2.2.2.2.1
    have x2 := hD.2.2.2.2.2.2.2.2.2.1
    have x3 := hD.2.2.2.2.2.2.2.2.2.2.2.2.2
    have y1 := hD.2.2.2.2.1
    have y2 := hD.2.2.2.2.2.1
    have y3 := hD.2.2.2.2.2.2.2.2.2.2.2.1
    refine Pm_suc rfl (fun k => by rw [x_divideRows]) (fun k => by rw [x_divideRows]) (fun k2 hk2 => ?_)
    rw [x1, x2, y1, y2, m4, n_cl (p := i) (by omega)]
    refine Pm_ite Iff.rfl (fun _ _ => b18 r k2 _ _ _ (by omega) hr m1 hD) (fun y _ => ?_)
    have hir : i < r := by
      by_cases e : r ≤ i
      · exact absurd ((n_le (by omega) (by omega)).mpr e) y
      · omega
    have b16 : ∀ (m3 : Nat) (O : Nat → Int32), m3 < m' → O 1 = nI b → O 4 = nI i → Pm m3 (fun k => x_divideRows k 16 O υ1) (fun k => x_divideRows k 16 O υ2) (fun r1 r2 => ∃ r, r ≤ 140 ∧ DA σ1 σ2 na nb r r1.2 r2.2) := by
      intro m3 O hm3 o1 o4
      refine Pm_suc rfl (fun k => by rw [x_divideRows]) (fun k => by rw [x_divideRows]) (fun k3 hk3 => ?_)
      rw [o4, n_cl (p := i) (by omega)]
      refine Pm_chk (fun _ _ => ?_)
      show Pm k3 (fun k => x_divideRows k 17 _ (mAr υ1 46 i (O 5 &&& 65535))) (fun k => x_divideRows k 17 _ (mAr υ2 46 i (O 5 &&& 65535))) _
      refine Pm_suc rfl (fun k => by rw [x_divideRows]) (fun k => by rw [x_divideRows]) (fun k4 hk4 => ?_)
      exact ihi k4 (by omega) r (i + 1) _ _ _ (by omega) hr (by omega) o1 (by show O 4 + 1 = _; rw [o4, n_add1]) (DA_46 hD rfl)
    have b14 : ∀ (m3 : Nat) (O : Nat → Int32), m3 < m' → O 1 = nI b → O 4 = nI i → Pm m3 (fun k => x_divideRows k 14 O υ1) (fun k => x_divideRows k 14 O υ2) (fun r1 r2 => ∃ r, r ≤ 140 ∧ DA σ1 σ2 na nb r r1.2 r2.2) := by
      intro m3 O hm3 o1 o4
      refine Pm_suc rfl (fun k => by rw [x_divideRows]) (fun k => by rw [x_divideRows]) (fun k3 hk3 => ?_)
      refine Pm_ite Iff.rfl (fun _ _ => ?_) (fun _ _ => b16 k3 _ (by omega) o1 o4)
      refine Pm_suc rfl (fun k => by rw [x_divideRows]) (fun k => by rw [x_divideRows]) (fun k4 hk4 => ?_)
      exact b16 k4 _ (by omega) o1 o4
    refine Pm_chk (fun _ _ => ?_)
    rw [x3 i hir]
    refine Pm_ite Iff.rfl (fun _ _ => ?_) (fun w _ => ?_)
    · refine Pm_suc rfl (fun k => by rw [x_divideRows]) (fun k => by rw [x_divideRows]) (fun k3 hk3 => ?_)
      exact b14 k3 _ (by omega) m1 m4
    · have hib : i < nb := by
        by_cases e : nb ≤ i
        · exact absurd ((n_le (by omega) (by omega)).mpr e) w
        · omega
      rw [y3 i hib]
      refine Pm_chk (fun _ _ => ?_)
      exact b14 k2 _ (by omega) m1 m4
  have b11 : ∀ (m' r : Nat) (M : Nat → Int32) (υ1 υ2 : MS), m' < m → r ≤ 140 → M 1 = nI b → DA σ1 σ2 na nb r υ1 υ2 → Pm m' (fun k => x_divideRows k 11 M υ1) (fun k => x_divideRows k 11 M υ2) (fun r1 r2 => ∃ r, r ≤ 140 ∧ DA σ1 σ2 na nb r r1.2 r2.2) := by
    intro m' r M υ1 υ2 hm' hr m1 hD
    have x1 := hD.2.2.2.2.2.2.2.2.1
    have x2 := hD.2.2.2.2.2.2.2.2.2.1
    have x3 := hD.2.2.2.2.2.2.2.2.2.2.2.2.2
    have y1 := hD.2.2.2.2.1
    have y2 := hD.2.2.2.2.2.1
    have y3 := hD.2.2.2.2.2.2.2.2.2.2.2.1
    refine Pm_suc rfl (fun k => by rw [x_divideRows]) (fun k => by rw [x_divideRows]) (fun k2 hk2 => ?_)
    rw [x1, x2, y1, y2]
    refine Pm_ob (k_cmpR46 (p := r) (q := nb) (by omega) (by omega) (by omega) x3 y3 rfl rfl rfl rfl) (fun r1 r2 hr' => ?_)
    obtain ⟨hr0, hr1, hr2⟩ := hr'
    rw [hr0, hr1, hr2]
    refine Pm_ite Iff.rfl (fun _ _ => b20 k2 r _ _ _ (by omega) hr m1 hD) (fun _ _ => ?_)
    exact b12 k2 r 0 _ _ _ (by omega) hr (Nat.zero_le _) m1 rfl hD
  have b7 : ∀ (m' i : Nat) (M : Nat → Int32) (υ1 υ2 : MS), m' < m → i ≤ r → M 1 = nI b → M 3 = nI i → DA σ1 σ2 na nb r υ1 υ2 → Pm m' (fun k => x_divideRows k 7 M υ1) (fun k => x_divideRows k 7 M υ2) (fun r1 r2 => ∃ r, r ≤ 140 ∧ DA σ1 σ2 na nb r r1.2 r2.2) := by
    intro m'
    induction m' using Nat.strongRecOn with
    | ind m' ihi =>
    intro i M υ1 υ2 hm' hi m1 m3 hD
    have x1 := hD.2.2.2.2.2.2.2.2.1
    have x2 := hD.2.2.2.2.2.2.2.2.2.1
    have x3 := hD.2.2.2.2.2.2.2.2.2.2.2.2.2
    refine Pm_suc rfl (fun k => by rw [x_divideRows]) (fun k => by rw [x_divideRows]) (fun k2 hk2 => ?_)
    rw [x1, x2, m3, n_cl (p := i) (by omega)]
    refine Pm_ite Iff.rfl (fun _ _ => ?_) (fun y _ => ?_)
    · refine Pm_suc rfl (fun k => by rw [x_divideRows]) (fun k => by rw [x_divideRows]) (fun k3 hk3 => ?_)
      rw [x1, x2]
      refine Pm_ite Iff.rfl (fun _ _ => b11 k3 r _ _ _ (by omega) hr m1 hD) (fun _ _ => ?_)
      refine Pm_chk (fun z _ => ?_)
      have hr140 := n_lt140 (by omega) z
      rw [n_cl (p := r) (by omega)]
      show Pm k3 (fun k => x_divideRows k 10 M (mAr υ1 46 r (M 2))) (fun k => x_divideRows k 10 M (mAr υ2 46 r (M 2))) _
      refine Pm_suc rfl (fun k => by rw [x_divideRows]) (fun k => by rw [x_divideRows]) (fun k4 hk4 => ?_)
      rw [show (mAr υ1 46 r (M 2)).1 90 + 1 = nI (r + 1) by show υ1.1 90 + 1 = _; rw [x1, n_add1], show (mAr υ2 46 r (M 2)).1 90 + 1 = nI (r + 1) by show υ2.1 90 + 1 = _; rw [x2, n_add1]]
      show Pm k4 (fun k => x_divideRows k 11 M (mSc (mAr υ1 46 r (M 2)) 90 (nI (r + 1)))) (fun k => x_divideRows k 11 M (mSc (mAr υ2 46 r (M 2)) 90 (nI (r + 1)))) _
      have hag : AgN ((mAr υ1 46 r (M 2)).2.2 46) ((mAr υ2 46 r (M 2)).2.2 46) (r + 1) := by rw [mAr_s, mAr_s]; exact AgN_up x3 rfl
      exact b11 k4 (r + 1) _ _ _ (by omega) (by omega) m1 (DA_90 (DA_46 hD rfl) hag)
    have hir : i < r := by
      by_cases e : r ≤ i
      · exact absurd ((n_le (by omega) (by omega)).mpr e) y
      · omega
    rw [x3 i hir]
    refine Pm_chk (fun _ _ => ?_)
    refine Pm_chk (fun _ _ => ?_)
    show Pm k2 (fun k => x_divideRows k 8 _ (mAr υ1 46 i _)) (fun k => x_divideRows k 8 _ (mAr υ2 46 i _)) _
    refine Pm_suc rfl (fun k => by rw [x_divideRows]) (fun k => by rw [x_divideRows]) (fun k3 hk3 => ?_)
    exact ihi k3 (by omega) (i + 1) _ _ _ (by omega) (by omega) m1 (by show M 3 + 1 = _; rw [m3, n_add1]) (DA_46 hD rfl)
  have e42 : τ1.2.2 42 (b / 16) = τ2.2.2 42 (b / 16) := hD.2.2.2.2.2.2.2.2.2.2.1 _ hb16
  rw [e42]
  refine Pm_chk (fun _ _ => ?_)
  exact b7 k1 0 _ _ _ (by omega) (Nat.zero_le _) n1 rfl hD
theorem k_divideRows {na nb : Nat} (hna : na ≤ 64) (hnb : nb ≤ 64) (p1 : σ1.1 84 = nI na) (p2 : σ2.1 84 = nI na) (q1 : σ1.1 85 = nI nb) (q2 : σ2.1 85 = nI nb) (hA : AgN (σ1.2.2 42) (σ2.2.2 42) na) (hB : AgN (σ1.2.2 43) (σ2.2.2 43) nb) (L : Nat → Int32) : Pm n (fun k => x_divideRows k 0 L σ1) (fun k => x_divideRows k 0 L σ2) (fun r1 r2 => ∃ r, r ≤ 140 ∧ DA σ1 σ2 na nb r r1.2 r2.2) := by
  have b3 : ∀ (m i : Nat) (N : Nat → Int32) (τ1 τ2 : MS), i ≤ na → N 1 = nI i → NF σ1 τ1 → NF σ2 τ2 → τ1.1 84 = nI na → τ2.1 84 = nI na → τ1.1 85 = nI nb → τ2.1 85 = nI nb → τ1.1 89 = nI na → τ2.1 89 = nI na → τ1.1 90 = nI 0 → τ2.1 90 = nI 0 → AgN (τ1.2.2 42) (τ2.2.2 42) na → AgN (τ1.2.2 43) (τ2.2.2 43) nb → AgN (τ1.2.2 45) (τ2.2.2 45) i → Pm m (fun k => x_divideRows k 3 N τ1) (fun k => x_divideRows k 3 N τ2) (fun r1 r2 => ∃ r, r ≤ 140 ∧ DA σ1 σ2 na nb r r1.2 r2.2) := by
    intro m
    induction m using Nat.strongRecOn with
    | ind m ih =>
    intro i N τ1 τ2 hi n1 a1 a2 a3 a4 a5 a6 a7 a8 a9 a10 a11 a12 a13
    refine Pm_suc rfl (fun k => by rw [x_divideRows]) (fun k => by rw [x_divideRows]) (fun k1 hk1 => ?_)
    rw [a3, a4, n1, n_cl (p := i) (by omega)]
    refine Pm_ite Iff.rfl (fun y _ => ?_) (fun y _ => ?_)
    · have y := (n_le (by omega) (by omega)).mp y
      have e : i = na := by omega
      rw [e] at a13
      refine Pm_suc rfl (fun k => by rw [x_divideRows]) (fun k => by rw [x_divideRows]) (fun k2 hk2 => ?_)
      rw [a3, a4, n_mul16 hna]
      exact k_dr6 hna hnb k2 (16 * na) 0 _ _ _ (Nat.le_refl _) (by omega) rfl ⟨a1, a2, a3, a4, a5, a6, a7, a8, a9, a10, a11, a12, a13, fun i hi => absurd hi (Nat.not_lt_zero i)⟩
    have hin : i < na := by
      by_cases e : na ≤ i
      · exact absurd ((n_le (by omega) (by omega)).mpr e) y
      · omega
    refine Pm_chk (fun _ _ => ?_)
    show Pm k1 (fun k => x_divideRows k 4 N (mAr τ1 45 i 0)) (fun k => x_divideRows k 4 N (mAr τ2 45 i 0)) _
    refine Pm_suc rfl (fun k => by rw [x_divideRows]) (fun k => by rw [x_divideRows]) (fun k2 hk2 => ?_)
    refine ih k2 (by omega) (i + 1) _ _ _ (by omega) (by show N 1 + 1 = _; rw [n1, n_add1]) (NF_tr a1 (NF_ar (by omega))) (NF_tr a2 (NF_ar (by omega))) a3 a4 a5 a6 a7 a8 a9 a10 ?_ ?_ ?_
    · rw [mAr_o (by decide), mAr_o (by decide)]; exact a11
    · rw [mAr_o (by decide), mAr_o (by decide)]; exact a12
    · rw [mAr_s, mAr_s]; exact AgN_up a13 rfl
  refine Pm_suc rfl (fun k => by rw [x_divideRows]) (fun k => by rw [x_divideRows]) (fun m1 _ => ?_)
  rw [p1, p2]
  show Pm m1 (fun k => x_divideRows k 1 L (mSc σ1 89 (nI na))) (fun k => x_divideRows k 1 L (mSc σ2 89 (nI na))) _
  refine Pm_suc rfl (fun k => by rw [x_divideRows]) (fun k => by rw [x_divideRows]) (fun m2 _ => ?_)
  show Pm m2 (fun k => x_divideRows k 2 L (mSc (mSc σ1 89 (nI na)) 90 (nI 0))) (fun k => x_divideRows k 2 L (mSc (mSc σ2 89 (nI na)) 90 (nI 0))) _
  refine Pm_suc rfl (fun k => by rw [x_divideRows]) (fun k => by rw [x_divideRows]) (fun m3 _ => ?_)
  exact b3 m3 0 _ _ _ (Nat.zero_le _) rfl (NF_tr (NF_sc (by omega)) (NF_sc (by omega))) (NF_tr (NF_sc (by omega)) (NF_sc (by omega))) p1 p2 q1 q2 rfl rfl rfl rfl hA hB (fun i hi => absurd hi (Nat.not_lt_zero i))
end KDV
end JnS163
section JnS164
/-! Two runs side by side (reference): div and mod. -/
section KDI
variable {g1 g2 : Nat → Prop} {l1 l2 : List Nat} {B1 h1 B2 h2 n : Nat} {σ1 σ2 : MS}
/-- behind the rows' division -/
def DB (σ1 σ2 : MS) (na nb r c i : Nat) (τ1 τ2 : MS) : Prop := NF σ1 τ1 ∧ NF σ2 τ2 ∧ τ1.1 86 = nI c ∧ τ2.1 86 = nI c ∧ τ1.1 90 = nI r ∧ τ2.1 90 = nI r ∧ AgN (τ1.2.2 43) (τ2.2.2 43) nb ∧ AgN (τ1.2.2 45) (τ2.2.2 45) na ∧ AgN (τ1.2.2 46) (τ2.2.2 46) r ∧ AgN (τ1.2.2 44) (τ2.2.2 44) i
theorem DB_w {na nb r c i : Nat} {τ1 τ2 : MS} {x y : Int32} (h : DB σ1 σ2 na nb r c i τ1 τ2) (e : x = y) : DB σ1 σ2 na nb r c (i + 1) (mAr τ1 44 i x) (mAr τ2 44 i y) := by
  obtain ⟨a1, a2, a3, a4, a5, a6, a7, a8, a9, a10⟩ := h
  refine ⟨NF_tr a1 (NF_ar (by omega)), NF_tr a2 (NF_ar (by omega)), a3, a4, a5, a6, ?_, ?_, ?_, ?_⟩
  · rw [mAr_o (by decide), mAr_o (by decide)]; exact a7
  · rw [mAr_o (by decide), mAr_o (by decide)]; exact a8
  · rw [mAr_o (by decide), mAr_o (by decide)]; exact a9
  · rw [mAr_s, mAr_s]; exact AgN_up a10 e
/-- the remainder -/
theorem k_mod7 {na nb r c : Nat} (hc : c ≤ 140) (hr : r ≤ 140) (hnb : nb ≤ 64) (hS1 : HS g1 l1 B1 h1 σ1) (hS2 : HS g2 l2 B2 h2 σ2) (e1 : σ1.1 56 = 0) (e2 : σ2.1 56 = 0) (hr1 : h1 + 70 ≤ B1 + 870000) (hr2 : h2 + 70 ≤ B2 + 870000) : ∀ (m i : Nat) (N1 N2 : Nat → Int32) (τ1 τ2 : MS), i ≤ c → LE3 N1 N2 → N1 6 = nI i → (¬ N1 4 = 0 → c = nb) → DB σ1 σ2 na nb r c i τ1 τ2 → Pm m (fun k => x_divide k 7 N1 τ1) (fun k => x_divide k 7 N2 τ2) (KQ h1 h2 70) := by
  intro m
  induction m using Nat.strongRecOn with
  | ind m ih =>
  intro i N1 N2 τ1 τ2 hi hN x6 h4 hD
  have y6 : N2 6 = nI i := (hN 6 (by omega)).symm.trans x6
  obtain ⟨a1, a2, a3, a4, a5, a6, a7, a8, a9, a10⟩ := hD
  have hD : DB σ1 σ2 na nb r c i τ1 τ2 := ⟨a1, a2, a3, a4, a5, a6, a7, a8, a9, a10⟩
  have b13 : ∀ (m' : Nat) (M1 M2 : Nat → Int32), m' < m → i < c → LE3 M1 M2 → M1 6 = nI i → M1 4 = N1 4 → Pm m' (fun k => x_divide k 13 M1 τ1) (fun k => x_divide k 13 M2 τ2) (KQ h1 h2 70) := by
    intro m' M1 M2 hm' hic hM m6 m4
    have w6 : M2 6 = nI i := (hM 6 (by omega)).symm.trans m6
    refine Pm_suc rfl (fun k => by rw [x_divide]) (fun k => by rw [x_divide]) (fun k1 hk1 => ?_)
    rw [m6, w6, n_cl (p := i) (by omega)]
    refine Pm_chk (fun _ _ => ?_)
    show Pm k1 (fun k => x_divide k 14 (upd M1 5 (M1 100)) (mAr τ1 44 i (M1 8 &&& 65535))) (fun k => x_divide k 14 (upd M2 5 (M2 100)) (mAr τ2 44 i (M2 8 &&& 65535))) _
    refine Pm_suc rfl (fun k => by rw [x_divide]) (fun k => by rw [x_divide]) (fun k2 hk2 => ?_)
    refine ih k2 (by omega) (i + 1) _ _ _ _ (by omega) (LE_u (LE_u hM (hM 100 (by omega))) ?_) ?_ (by show ¬ M1 4 = 0 → _; rw [m4]; exact h4) (DB_w hD (by rw [hM 8 (by omega)]))
    · show M1 6 + 1 = M2 6 + 1
      rw [m6, w6]
    · show M1 6 + 1 = nI (i + 1)
      rw [m6, n_add1]
  have b11 : ∀ (m' : Nat) (M1 M2 : Nat → Int32), m' < m → i < c → LE3 M1 M2 → M1 6 = nI i → M1 4 = N1 4 → Pm m' (fun k => x_divide k 11 M1 τ1) (fun k => x_divide k 11 M2 τ2) (KQ h1 h2 70) := by
    intro m' M1 M2 hm' hic hM m6 m4
    have hM8 : LE3 (upd M1 8 (M1 100)) (upd M2 8 (M2 100)) := LE_u hM (hM 100 (by omega))
    have b12 : ∀ m2, m2 < m → Pm m2 (fun k => x_divide k 12 (upd M1 8 (M1 100)) τ1) (fun k => x_divide k 12 (upd M2 8 (M2 100)) τ2) (KQ h1 h2 70) := fun m2 hm2 => by
      refine Pm_suc rfl (fun k => by rw [x_divide]) (fun k => by rw [x_divide]) (fun k2 hk2 => ?_)
      exact b13 k2 _ _ (by omega) hic (LE_u hM8 rfl) m6 m4
    refine Pm_suc rfl (fun k => by rw [x_divide]) (fun k => by rw [x_divide]) (fun k1 hk1 => ?_)
    refine Pm_ite (by rw [hM 4 (by omega)]) (fun _ _ => b12 k1 (by omega)) (fun _ _ => ?_)
    exact Pm_ite (by rw [hM 100 (by omega)]) (fun _ _ => b12 k1 (by omega)) (fun _ _ => b13 k1 _ _ (by omega) hic (LE_u hM8 rfl) m6 m4)
  have b9 : ∀ (m' : Nat) (M1 M2 : Nat → Int32), m' < m → i < c → LE3 M1 M2 → M1 6 = nI i → M1 4 = N1 4 → Pm m' (fun k => x_divide k 9 M1 τ1) (fun k => x_divide k 9 M2 τ2) (KQ h1 h2 70) := by
    intro m' M1 M2 hm' hic hM m6 m4
    have w6 : M2 6 = nI i := (hM 6 (by omega)).symm.trans m6
    have hM7 : LE3 (upd M1 7 (M1 100)) (upd M2 7 (M2 100)) := LE_u hM (hM 100 (by omega))
    refine Pm_suc rfl (fun k => by rw [x_divide]) (fun k => by rw [x_divide]) (fun k1 hk1 => ?_)
    rw [m6, w6, n_cl (p := i) (by omega)]
    refine Pm_ite (by rw [hM 4 (by omega)]) (fun _ _ => ?_) (fun z _ => ?_)
    · refine Pm_suc rfl (fun k => by rw [x_divide]) (fun k => by rw [x_divide]) (fun k2 hk2 => ?_)
      exact b11 k2 _ _ (by omega) hic (LE_u hM7 (hM7 7 (by omega))) m6 m4
    · have ec := h4 (by rw [← m4]; exact z)
      refine Pm_chk (fun _ _ => ?_)
      exact b11 k1 _ _ (by omega) hic (LE_u hM7 (by rw [a7 i (by omega), hM 100 (by omega), hM 5 (by omega)])) m6 m4
  refine Pm_suc rfl (fun k => by rw [x_divide]) (fun k => by rw [x_divide]) (fun k1 hk1 => ?_)
  rw [a3, a4, a5, a6, x6, y6, n_cl (p := i) (by omega)]
  refine Pm_ite Iff.rfl (fun y _ => ?_) (fun y _ => ?_)
  · have y := (n_le (by omega) (by omega)).mp y
    have e : i = c := by omega
    rw [e] at a10
    refine Pm_suc rfl (fun k => by rw [x_divide]) (fun k => by rw [x_divide]) (fun k2 hk2 => ?_)
    exact Pm_ob (k_wholeOf (NF_HS a1 hS1) (NF_HS a2 hS2) ((a1.1 56 (by decide)).trans e1) ((a2.1 56 (by decide)).trans e2) hr1 hr2 (by omega) a3 a4 a10 rfl) (fun r1 r2 hr => Pm_some hr)
  have hic : i < c := by
    by_cases e : c ≤ i
    · exact absurd ((n_le (by omega) (by omega)).mpr e) y
    · omega
  refine Pm_ite Iff.rfl (fun _ _ => ?_) (fun y _ => ?_)
  · refine Pm_suc rfl (fun k => by rw [x_divide]) (fun k => by rw [x_divide]) (fun k2 hk2 => ?_)
    exact b9 k2 _ _ (by omega) hic (LE_u hN rfl) x6 rfl
  · have hir : i < r := by
      by_cases e : r ≤ i
      · exact absurd ((n_le (by omega) (by omega)).mpr e) y
      · omega
    refine Pm_chk (fun _ _ => ?_)
    exact b9 k1 _ _ (by omega) hic (LE_u hN (a9 i hir)) x6 rfl
/-- the quotient -/
theorem k_div20 {a1 a2 b1 b2 p q na nb r : Nat} (hna : na ≤ 64) (hS1 : HS g1 l1 B1 h1 σ1) (hS2 : HS g2 l2 B2 h2 σ2) (e1 : σ1.1 56 = 0) (e2 : σ2.1 56 = 0) (hr1 : h1 + 70 ≤ B1 + 870000) (hr2 : h2 + 70 ≤ B2 + 870000) (hA : WhE σ1 σ2 a1 a2 p) (hB : WhE σ1 σ2 b1 b2 q) : ∀ (m i : Nat) (N1 N2 : Nat → Int32) (τ1 τ2 : MS), i ≤ na → LE3 N1 N2 → N1 1 = nI a1 → N1 2 = nI b1 → N2 1 = nI a2 → N2 2 = nI b2 → N1 6 = nI i → DB σ1 σ2 na nb r na i τ1 τ2 → Pm m (fun k => x_divide k 20 N1 τ1) (fun k => x_divide k 20 N2 τ2) (KQ h1 h2 70) := by
  intro m
  induction m using Nat.strongRecOn with
  | ind m ih =>
  intro i N1 N2 τ1 τ2 hi hN x1 x2 y1 y2 x6 hD
  have y6 : N2 6 = nI i := (hN 6 (by omega)).symm.trans x6
  obtain ⟨a1', a2', a3, a4, a5, a6, a7, a8, a9, a10⟩ := hD
  have hD : DB σ1 σ2 na nb r na i τ1 τ2 := ⟨a1', a2', a3, a4, a5, a6, a7, a8, a9, a10⟩
  have b24 : ∀ (m' c : Nat) (υ1 υ2 : MS), c ≤ 300 → NF σ1 υ1 → NF σ2 υ2 → υ1.1 86 = nI c → υ2.1 86 = nI c → AgN (υ1.2.2 44) (υ2.2.2 44) c → Pm m' (fun k => x_divide k 24 N1 υ1) (fun k => x_divide k 24 N2 υ2) (KQ h1 h2 70) := by
    intro m' c υ1 υ2 hc n1 n2 c1 c2 hC
    have hU1 := NF_HS n1 hS1
    have hU2 := NF_HS n2 hS2
    refine Pm_suc rfl (fun k => by rw [x_divide]) (fun k => by rw [x_divide]) (fun k1 _ => ?_)
    refine Pm_ob (k_signOf hU1 hU2 (WhE_NF n1 n2 hA) (by exact x1) (by exact y1)) (fun z1 z2 hz => ?_)
    rw [hz.1, hz.2]
    refine Pm_ob (k_signOf hU1 hU2 (WhE_NF n1 n2 hB) (by exact x2) (by exact y2)) (fun w1 w2 hw => ?_)
    rw [hw.1, hw.2]
    exact Pm_ob (k_wholeOf hU1 hU2 ((n1.1 56 (by decide)).trans e1) ((n2.1 56 (by decide)).trans e2) hr1 hr2 hc c1 c2 hC rfl) (fun r1 r2 hr => Pm_some hr)
  refine Pm_suc rfl (fun k => by rw [x_divide]) (fun k => by rw [x_divide]) (fun k1 hk1 => ?_)
  rw [a3, a4, x6, y6, n_cl (p := i) (by omega)]
  refine Pm_ite Iff.rfl (fun y _ => ?_) (fun y _ => ?_)
  · have y := (n_le (by omega) (by omega)).mp y
    have e : i = na := by omega
    rw [e] at a10
    refine Pm_suc rfl (fun k => by rw [x_divide]) (fun k => by rw [x_divide]) (fun k2 hk2 => ?_)
    rw [a3, a4, n_cl (p := na) (by omega)]
    refine Pm_ite (by rw [hN 5 (by omega)]) (fun _ _ => b24 k2 na _ _ (by omega) a1' a2' a3 a4 a10) (fun _ _ => ?_)
    refine Pm_chk (fun _ _ => ?_)
    show Pm k2 (fun k => x_divide k 23 N1 (mAr τ1 44 na (N1 5))) (fun k => x_divide k 23 N2 (mAr τ2 44 na (N2 5))) _
    refine Pm_suc rfl (fun k => by rw [x_divide]) (fun k => by rw [x_divide]) (fun k3 hk3 => ?_)
    rw [show (mAr τ1 44 na (N1 5)).1 86 + 1 = nI (na + 1) by show τ1.1 86 + 1 = _; rw [a3, n_add1], show (mAr τ2 44 na (N2 5)).1 86 + 1 = nI (na + 1) by show τ2.1 86 + 1 = _; rw [a4, n_add1]]
    show Pm k3 (fun k => x_divide k 24 N1 (mSc (mAr τ1 44 na (N1 5)) 86 (nI (na + 1)))) (fun k => x_divide k 24 N2 (mSc (mAr τ2 44 na (N2 5)) 86 (nI (na + 1)))) _
    refine b24 k3 (na + 1) _ _ (by omega) (NF_tr a1' (NF_tr (NF_ar (by omega)) (NF_sc (by omega)))) (NF_tr a2' (NF_tr (NF_ar (by omega)) (NF_sc (by omega)))) rfl rfl ?_
    show AgN ((mAr τ1 44 na (N1 5)).2.2 44) ((mAr τ2 44 na (N2 5)).2.2 44) (na + 1)
    rw [mAr_s, mAr_s]; exact AgN_up a10 (hN 5 (by omega))
  have hin : i < na := by
    by_cases e : na ≤ i
    · exact absurd ((n_le (by omega) (by omega)).mpr e) y
    · omega
  have ev : τ1.2.2 45 i + N1 5 = τ2.2.2 45 i + N2 5 := by rw [a8 i hin, hN 5 (by omega)]
  rw [ev]
  refine Pm_chk (fun _ _ => ?_)
  refine Pm_chk (fun _ _ => ?_)
  show Pm k1 (fun k => x_divide k 21 (upd N1 7 (τ2.2.2 45 i + N2 5)) (mAr τ1 44 i ((τ2.2.2 45 i + N2 5) &&& 65535))) (fun k => x_divide k 21 (upd N2 7 (τ2.2.2 45 i + N2 5)) (mAr τ2 44 i ((τ2.2.2 45 i + N2 5) &&& 65535))) _
  refine Pm_suc rfl (fun k => by rw [x_divide]) (fun k => by rw [x_divide]) (fun k2 hk2 => ?_)
  refine ih k2 (by omega) (i + 1) _ _ _ _ (by omega) (LE_u (LE_u (LE_u hN rfl) rfl) ?_) x1 x2 y1 y2 ?_ (DB_w hD rfl)
  · show N1 6 + 1 = N2 6 + 1
    rw [x6, y6]
  · show N1 6 + 1 = nI (i + 1)
    rw [x6, n_add1]
theorem k_divide {a1 a2 b1 b2 p q : Nat} (hS1 : HS g1 l1 B1 h1 σ1) (hS2 : HS g2 l2 B2 h2 σ2) (e1 : σ1.1 56 = 0) (e2 : σ2.1 56 = 0) (hr1 : h1 + 70 ≤ B1 + 870000) (hr2 : h2 + 70 ≤ B2 + 870000) (hA : WhE σ1 σ2 a1 a2 p) (hB : WhE σ1 σ2 b1 b2 q) {L1 L2 : Nat → Int32} (d1 : L1 1 = nI a1) (d2 : L1 2 = nI b1) (f1 : L2 1 = nI a2) (f2 : L2 2 = nI b2) (hL : LE3 L1 L2) : Pm n (fun k => x_divide k 0 L1 σ1) (fun k => x_divide k 0 L2 σ2) (KQ h1 h2 70) := by
  have hp := hA.1.2.2.1
  have hq := hB.1.2.2.1
  refine Pm_suc rfl (fun k => by rw [x_divide]) (fun k => by rw [x_divide]) (fun m1 _ => ?_)
  refine Pm_ob (k_signOf hS1 hS2 hB (by exact d2) (by exact f2)) (fun z1 z2 hz => ?_)
  rw [hz.1, hz.2]
  refine Pm_ite Iff.rfl (fun _ _ => ?_) (fun _ _ => ?_)
  · refine Pm_ob (Pm_t2 (s_fail _ σ1) (fun k => f_fail k _ _ _) (s_fail _ σ2) (fun k => f_fail k _ _ _)) (fun s1 s2 hs => ?_)
    rw [hs.1, hs.2]
    exact Pm_some (KQ_er (mEr_e (by decide)) (mEr_e (by decide)) ((mEr_s (by decide)).trans hS1.2.2.1) ((mEr_s (by decide)).trans hS2.2.2.1))
  refine Pm_suc rfl (fun k => by rw [x_divide]) (fun k => by rw [x_divide]) (fun m2 _ => ?_)
  refine Pm_ob (k_loadA hS1 hS2 hA (by exact d1) (by exact f1)) (fun r1 r2 hr => ?_)
  obtain ⟨q1, q2, q3, q4, q5⟩ := hr
  have hT1 := NF_HS q1 hS1
  have hT2 := NF_HS q2 hS2
  refine Pm_ob (k_loadB hT1 hT2 (WhE_NF q1 q2 hB) (by exact d2) (by exact f2)) (fun s1 s2 hs => ?_)
  obtain ⟨w1, w2, w3, w4, w5, w6, w7, w8, w9⟩ := hs
  have n1 := NF_tr q1 w1
  have n2 := NF_tr q2 w2
  refine Pm_ob (k_divideRows (na := p - 1) (nb := q - 1) (by omega) (by omega) (w8.trans q3) (w9.trans q4) w3 w4 (by rw [w6, w7]; exact q5) w5 _) (fun t1 t2 ht => ?_)
  obtain ⟨r, hr140, c1, c2, _, _, c5, c6, c7, c8, c9, c10, _, c12, c13, c14⟩ := ht
  have n1 := NF_tr n1 c1
  have n2 := NF_tr n2 c2
  have hU1 := NF_HS n1 hS1
  have hU2 := NF_HS n2 hS2
  refine Pm_ob (k_signOf hU1 hU2 (WhE_NF n1 n2 hA) (by exact d1) (by exact f1)) (fun y1 y2 hy => ?_)
  rw [hy.1, hy.2]
  have hDB : ∀ c, DB σ1 σ2 (p - 1) (q - 1) r c 0 (mSc t1.2 86 (nI c)) (mSc t2.2 86 (nI c)) := fun c => ⟨NF_tr n1 (NF_sc (by omega)), NF_tr n2 (NF_sc (by omega)), rfl, rfl, c9, c10, c12, c13, c14, fun i hi => absurd hi (Nat.not_lt_zero i)⟩
  have b5 : ∀ (m c : Nat) (N1 N2 : Nat → Int32), c ≤ 140 → LE3 N1 N2 → N1 100 = nI c → (¬ N1 4 = 0 → c = q - 1) → Pm m (fun k => x_divide k 5 N1 t1.2) (fun k => x_divide k 5 N2 t2.2) (KQ h1 h2 70) := by
    intro m c N1 N2 hc hN n100 h4
    refine Pm_suc rfl (fun k => by rw [x_divide]) (fun k => by rw [x_divide]) (fun k1 _ => ?_)
    rw [n100, ← hN 100 (by omega), n100]
    show Pm k1 (fun k => x_divide k 6 N1 (mSc t1.2 86 (nI c))) (fun k => x_divide k 6 N2 (mSc t2.2 86 (nI c))) _
    refine Pm_suc rfl (fun k => by rw [x_divide]) (fun k => by rw [x_divide]) (fun k2 _ => ?_)
    exact k_mod7 hc hr140 (by omega) hS1 hS2 e1 e2 hr1 hr2 k2 0 _ _ _ _ (Nat.zero_le _) (LE_u (LE_u hN rfl) rfl) rfl h4 (hDB c)
  have b16 : ∀ (m : Nat) (N1 N2 : Nat → Int32), LE3 N1 N2 → N1 1 = nI a1 → N1 2 = nI b1 → N2 1 = nI a2 → N2 2 = nI b2 → Pm m (fun k => x_divide k 16 N1 t1.2) (fun k => x_divide k 16 N2 t2.2) (KQ h1 h2 70) := by
    intro m N1 N2 hN x1 x2 y1 y2
    refine Pm_suc rfl (fun k => by rw [x_divide]) (fun k => by rw [x_divide]) (fun k1 _ => ?_)
    rw [c7, c8]
    show Pm k1 (fun k => x_divide k 17 N1 (mSc t1.2 86 (nI (p - 1)))) (fun k => x_divide k 17 N2 (mSc t2.2 86 (nI (p - 1)))) _
    have b19 : ∀ (m' : Nat) (M1 M2 : Nat → Int32), LE3 M1 M2 → M1 1 = nI a1 → M1 2 = nI b1 → M2 1 = nI a2 → M2 2 = nI b2 → Pm m' (fun k => x_divide k 19 M1 (mSc t1.2 86 (nI (p - 1)))) (fun k => x_divide k 19 M2 (mSc t2.2 86 (nI (p - 1)))) (KQ h1 h2 70) := by
      intro m' M1 M2 hM u1 u2 v1 v2
      refine Pm_suc rfl (fun k => by rw [x_divide]) (fun k => by rw [x_divide]) (fun k3 _ => ?_)
      exact k_div20 (by omega) hS1 hS2 e1 e2 hr1 hr2 hA hB k3 0 _ _ _ _ (Nat.zero_le _) (LE_u (LE_u hM (hM 100 (by omega))) rfl) u1 u2 v1 v2 rfl (hDB (p - 1))
    refine Pm_suc rfl (fun k => by rw [x_divide]) (fun k => by rw [x_divide]) (fun k2 _ => ?_)
    refine Pm_ite (by rw [hN 4 (by omega)]) (fun _ _ => ?_) (fun _ _ => b19 k2 _ _ (LE_u hN rfl) x1 x2 y1 y2)
    refine Pm_suc rfl (fun k => by rw [x_divide]) (fun k => by rw [x_divide]) (fun k3 _ => ?_)
    exact b19 k3 _ _ (LE_u hN rfl) x1 x2 y1 y2
  have b3 : ∀ (m : Nat) (N1 N2 : Nat → Int32), LE3 N1 N2 → N1 1 = nI a1 → N1 2 = nI b1 → N2 1 = nI a2 → N2 2 = nI b2 → Pm m (fun k => x_divide k 3 N1 t1.2) (fun k => x_divide k 3 N2 t2.2) (KQ h1 h2 70) := by
    intro m N1 N2 hN x1 x2 y1 y2
    have hN4 : LE3 (upd N1 4 (N1 100)) (upd N2 4 (N2 100)) := LE_u hN (hN 100 (by omega))
    refine Pm_suc rfl (fun k => by rw [x_divide]) (fun k => by rw [x_divide]) (fun k1 _ => ?_)
    rw [c5, c6]
    refine Pm_ite (by rw [hN 3 (by omega)]) (fun _ _ => b16 k1 _ _ hN4 x1 x2 y1 y2) (fun _ _ => ?_)
    refine Pm_ite (by rw [hN 100 (by omega)]) (fun z _ => ?_) (fun z _ => b5 k1 (q - 1) _ _ (by omega) (LE_u hN4 rfl) rfl (fun _ => rfl))
    refine Pm_suc rfl (fun k => by rw [x_divide]) (fun k => by rw [x_divide]) (fun k2 _ => ?_)
    rw [c9, c10]
    exact b5 k2 r _ _ hr140 (LE_u hN4 rfl) rfl (fun w => absurd z w)
  have b2 : ∀ (m : Nat), Pm m (fun k => x_divide k 2 L1 t1.2) (fun k => x_divide k 2 L2 t2.2) (KQ h1 h2 70) := fun m => by
    refine Pm_suc rfl (fun k => by rw [x_divide]) (fun k => by rw [x_divide]) (fun k1 _ => ?_)
    exact b3 k1 _ _ (LE_u hL rfl) d1 d2 f1 f2
  refine Pm_ite Iff.rfl (fun _ _ => b2 m2) (fun _ _ => ?_)
  rw [c9, c10]
  exact Pm_ite Iff.rfl (fun _ _ => b2 m2) (fun _ _ => b3 m2 _ _ (LE_u hL rfl) d1 d2 f1 f2)
end KDI
end JnS164
section JnS165
/-! What is made holds what it was made of (reference): rows of values. -/
/-- sizes together -/
def sS (H : Nat → Int32) (c : Nat → Int32) : Nat → Nat
  | 0 => 0
  | i + 1 => sS H c i + szN H (c i).toNatClampNeg
/-- the greatest height -/
def mH (H : Nat → Int32) (c : Nat → Int32) : Nat → Nat
  | 0 => 0
  | i + 1 => if htN H (c i).toNatClampNeg ≤ mH H c i then mH H c i else htN H (c i).toNatClampNeg
/-- a row that was made at h of the values c, or an error since it is too large or too high -/
def RwM (H : Nat → Int32) (h kd n : Nat) (c : Nat → Int32) (r : Int32 × MS) : Prop := r.2.1 55 = nI (h + 4 + n) ∧ ((1 + sS H c n ≤ 1000 ∧ mH H c n + 1 ≤ 30 ∧ r.1 = nI h ∧ r.2.1 56 = 0 ∧ r.2.2.2 28 h = nI kd ∧ r.2.2.2 28 (h + 1) = nI n ∧ r.2.2.2 28 (h + 2) = nI (1 + sS H c n) ∧ r.2.2.2 28 (h + 3) = nI (mH H c n + 1) ∧ ∀ i, i < n → r.2.2.2 28 (h + 4 + i) = c i) ∨ (¬ (1 + sS H c n ≤ 1000 ∧ mH H c n + 1 ≤ 30) ∧ ¬ r.2.1 56 = 0))
section URW
variable {g : Nat → Prop} {l : List Nat} {B h t : Nat} {σ : MS}
theorem sS_b (hS : HS g l B h σ) {c : Nat → Int32} {n : Nat} (hc : ∀ i, i < n → ∃ m, c i = nI m ∧ (m < 3 ∨ g m)) : ∀ i, i ≤ n → i ≤ sS (σ.2.2 28) c i ∧ sS (σ.2.2 28) c i ≤ 1000 * i ∧ mH (σ.2.2 28) c i ≤ 30 := by
  intro i
  induction i with
  | zero => intro _; exact ⟨Nat.le_refl _, Nat.le_refl _, Nat.zero_le _⟩
  | succ i ih =>
    intro hi
    obtain ⟨m, m1, m2⟩ := hc i (by omega)
    have hb := HS_vb hS m2
    have := szN_b hS m2
    have := ih (by omega)
    unfold sS mH
    rw [m1, n_cl (by omega)]
    refine ⟨by omega, by omega, ?_⟩
    by_cases e : htN (σ.2.2 28) m ≤ mH (σ.2.2 28) c i
    · rw [if_pos e]; omega
    · rw [if_neg e]; omega
theorem u_measured {m n kd : Nat} {τ : MS} {l' : List Nat} {H0 : Nat → Int32} {c : Nat → Int32} (hS : HS g l' B (h + 4 + n) τ) (hn : n ≤ 200000) (h56 : τ.1 56 = 0) (h55 : τ.1 55 = nI (h + 4 + n)) (th : τ.2.2 28 h = nI kd) (th1 : τ.2.2 28 (h + 1) = nI n) (tc : ∀ i, i < n → τ.2.2 28 (h + 4 + i) = c i) (hc : ∀ i, i < n → ∃ m, c i = nI m ∧ (m < 3 ∨ g m)) (hsz : ∀ m, (m < 3 ∨ g m) → szN H0 m = szN (τ.2.2 28) m ∧ htN H0 m = htN (τ.2.2 28) m) {L : Nat → Int32} (hL : L 1 = nI h) : Um m (fun k => x_measured k 0 L τ) (RwM H0 h kd n c) := by
  have hb := HS_b hS
  have hB := hS.2.1
  have eS : ∀ i, i ≤ n → sS H0 c i = sS (τ.2.2 28) c i ∧ mH H0 c i = mH (τ.2.2 28) c i := by
    intro i
    induction i with
    | zero => intro _; exact ⟨rfl, rfl⟩
    | succ i ih =>
      intro hi
      obtain ⟨m, m1, m2⟩ := hc i (by omega)
      have hmb := HS_vb hS m2
      have q := hsz m m2
      have p := ih (by omega)
      unfold sS mH
      rw [m1, n_cl (by omega), q.1, q.2, p.1, p.2]
      exact ⟨rfl, rfl⟩
  have bd := sS_b hS hc
  obtain ⟨eS1, eS2⟩ := eS n (Nat.le_refl _)
  -- the end
  have b4 : ∀ (m : Nat) (N : Nat → Int32), N 1 = nI h → N 2 = nI (1 + sS H0 c n) → N 3 = nI (mH H0 c n) → Um m (fun k => x_measured k 4 N τ) (RwM H0 h kd n c) := by
    intro m N n1 n2 n3
    obtain ⟨bd1, bd2, bd3⟩ := bd n (Nat.le_refl _)
    rw [← eS1] at bd1 bd2
    rw [← eS2] at bd3
    refine Um_suc rfl (fun k => by rw [x_measured]) (fun m1 _ => ?_)
    rw [n1, n2, show nI h + 2 = nI (h + 2) from n_add (q := 2) (by omega), n_cl (p := h + 2) (by omega)]
    refine Um_chk (fun _ => ?_)
    show Um m1 (fun k => x_measured k 5 N (mAr τ 28 (h + 2) (nI (1 + sS H0 c n)))) _
    refine Um_suc rfl (fun k => by rw [x_measured]) (fun m2 _ => ?_)
    rw [n1, n3, n_add1, show nI h + 3 = nI (h + 3) from n_add (q := 3) (by omega), n_cl (p := h + 3) (by omega)]
    refine Um_chk (fun _ => ?_)
    show Um m2 (fun k => x_measured k 6 N (mAr (mAr τ 28 (h + 2) (nI (1 + sS H0 c n))) 28 (h + 3) (nI (mH H0 c n + 1)))) _
    have e2 : (mAr (mAr τ 28 (h + 2) (nI (1 + sS H0 c n))) 28 (h + 3) (nI (mH H0 c n + 1))).2.2 28 = upd (upd (τ.2.2 28) (h + 2) (nI (1 + sS H0 c n))) (h + 3) (nI (mH H0 c n + 1)) := by rw [mAr_s, mAr_s]
    have f56 : (mAr (mAr τ 28 (h + 2) (nI (1 + sS H0 c n))) 28 (h + 3) (nI (mH H0 c n + 1))).1 56 = 0 := h56
    have f55 : (mAr (mAr τ 28 (h + 2) (nI (1 + sS H0 c n))) 28 (h + 3) (nI (mH H0 c n + 1))).1 55 = nI (h + 4 + n) := h55
    generalize mAr (mAr τ 28 (h + 2) (nI (1 + sS H0 c n))) 28 (h + 3) (nI (mH H0 c n + 1)) = υ at e2 f56 f55
    have u2 : ∀ j, j ≠ h + 2 → j ≠ h + 3 → υ.2.2 28 j = τ.2.2 28 j := fun j h1 h2 => by rw [e2, upd_other h2, upd_other h1]
    have us : υ.2.2 28 (h + 2) = nI (1 + sS H0 c n) := by rw [e2, upd_other (by omega), upd_same]
    have ut : υ.2.2 28 (h + 3) = nI (mH H0 c n + 1) := by rw [e2, upd_same]
    refine Um_suc rfl (fun k => by rw [x_measured]) (fun m3 _ => ?_)
    refine Um_ob (P := RwM H0 h kd n c) ?_ (fun r hr => Um_some hr)
    have l1 : ¬ (1 + sS H0 c n ≤ 1000 ∧ mH H0 c n + 1 ≤ 30) → ∀ (m' : Nat) (M : Nat → Int32), Um m' (fun k => x_checked k 1 M υ) (RwM H0 h kd n c) := fun hno m' M => by
      refine Um_suc rfl (fun k => by rw [x_checked]) (fun m4 _ => ?_)
      refine Um_ob (Um_t (s_fail _ υ) (fun k => f_fail k _ _ _)) (fun r hr => ?_)
      rw [hr]
      refine Um_suc rfl (fun k => by rw [x_checked]) (fun m5 _ => ?_)
      refine Um_ite (fun z => absurd z (mEr_e (by decide))) (fun _ => ?_)
      refine Um_suc rfl (fun k => by rw [x_checked]) (fun m6 _ => ?_)
      refine Um_suc rfl (fun k => by rw [x_checked]) (fun m7 _ => ?_)
      exact Um_some ⟨(mEr_s (by decide)).trans f55, Or.inr ⟨hno, mEr_e (by decide)⟩⟩
    refine Um_suc rfl (fun k => by rw [x_checked]) (fun m4 _ => ?_)
    rw [show upd (fun _ => (0 : Int32)) 1 (N 1) 1 = nI h from n1, show nI h + 2 = nI (h + 2) from n_add (q := 2) (by omega), show nI h + 3 = nI (h + 3) from n_add (q := 3) (by omega), n_cl (p := h + 2) (by omega), n_cl (p := h + 3) (by omega), us, ut]
    refine Um_ite (fun _ => ?_) (fun w => absurd f56 w)
    refine Um_chk (fun _ => ?_)
    refine Um_ite (fun w => l1 (fun z => ?_) m4 _) (fun w => ?_)
    · have := (n_lt (p := 1000) (by decide) (by omega)).mp w
      omega
    have w : 1 + sS H0 c n ≤ 1000 := by
      by_cases q : 1000 < 1 + sS H0 c n
      · exact absurd ((n_lt (p := 1000) (by decide) (by omega)).mpr q) w
      · omega
    refine Um_chk (fun _ => ?_)
    refine Um_ite (fun w2 => ?_) (fun w2 => l1 (fun z => w2 ((n_le (q := 30) (by omega) (by decide)).mpr z.2)) m4 _)
    have w2 := (n_le (q := 30) (by omega) (by decide)).mp w2
    refine Um_suc rfl (fun k => by rw [x_checked]) (fun m5 _ => ?_)
    refine Um_ite (fun _ => ?_) (fun z => absurd f56 z)
    refine Um_suc rfl (fun k => by rw [x_checked]) (fun m6 _ => ?_)
    exact Um_some ⟨f55, Or.inl ⟨w, w2, n1, f56, (u2 _ (by omega) (by omega)).trans th, (u2 _ (by omega) (by omega)).trans th1, us, ut, fun i hi => (u2 _ (by omega) (by omega)).trans (tc i hi)⟩⟩
  have b1 : ∀ (m i : Nat) (N : Nat → Int32), i ≤ n → N 1 = nI h → N 2 = nI (1 + sS H0 c i) → N 3 = nI (mH H0 c i) → N 4 = nI n → N 5 = nI i → Um m (fun k => x_measured k 1 N τ) (RwM H0 h kd n c) := by
    intro m
    induction m using Nat.strongRecOn with
    | ind m ih =>
    intro i N hi n1 n2 n3 n4 n5
    refine Um_suc rfl (fun k => by rw [x_measured]) (fun m1 hm1 => ?_)
    rw [n1, n4, n5, show nI h + 4 = nI (h + 4) from n_add (q := 4) (by omega), n_add (p := h + 4) (by omega), n_cl (p := h + 4 + i) (by omega)]
    refine Um_ite (fun y => ?_) (fun y => ?_)
    · have y := (n_le (by omega) (by omega)).mp y
      have e : i = n := by omega
      rw [e] at n2 n3
      exact b4 m1 N n1 n2 n3
    have hin : i < n := by
      by_cases e : n ≤ i
      · exact absurd ((n_le (by omega) (by omega)).mpr e) y
      · omega
    obtain ⟨x, x1, x2⟩ := hc i hin
    have hx := HS_vb hS x2
    have qx := hsz x x2
    have bx := szN_b hS x2
    obtain ⟨bd1, bd2, bd3⟩ := bd i hi
    obtain ⟨ei1, ei2⟩ := eS i hi
    have en1 : sS H0 c (i + 1) = sS H0 c i + szN (τ.2.2 28) x := by
      show sS H0 c i + szN H0 (c i).toNatClampNeg = _
      rw [x1, n_cl (by omega), qx.1]
    have en2 : mH H0 c (i + 1) = if htN (τ.2.2 28) x ≤ mH H0 c i then mH H0 c i else htN (τ.2.2 28) x := by
      show (if htN H0 (c i).toNatClampNeg ≤ mH H0 c i then mH H0 c i else htN H0 (c i).toNatClampNeg) = _
      rw [x1, n_cl (by omega), qx.2]
    rw [tc i hin, x1]
    refine Um_chk (fun _ => ?_)
    refine Um_ob (Um_t (s_size hS x2 rfl) (fun k => f_size k _ _ _)) (fun r hr => ?_)
    rw [hr]
    refine Um_ob (Um_t (s_height hS x2 rfl) (fun k => f_height k _ _ _)) (fun r2 hr2 => ?_)
    rw [hr2, n3, n2]
    have hsum : nI (1 + sS H0 c i) + nI (szN (τ.2.2 28) x) = nI (1 + sS H0 c (i + 1)) := by
      rw [n_add (by omega), en1, Nat.add_assoc]
    have b3 : ∀ (m' : Nat) (M : Nat → Int32), m' < m → M 1 = nI h → M 2 = nI (1 + sS H0 c (i + 1)) → M 100 = nI (mH H0 c (i + 1)) → M 4 = nI n → M 5 = nI i → Um m' (fun k => x_measured k 3 M τ) (RwM H0 h kd n c) := by
      intro m' M hm' q1 q2 q3 q4 q5
      refine Um_suc rfl (fun k => by rw [x_measured]) (fun m2 hm2 => ?_)
      exact ih m2 (by omega) (i + 1) _ (by omega) q1 q2 q3 q4 (by show M 5 + 1 = _; rw [q5, n_add1])
    refine Um_ite (fun w => ?_) (fun w => ?_)
    · have w := (n_le (by omega) (by omega)).mp w
      refine Um_suc rfl (fun k => by rw [x_measured]) (fun m2 hm2 => ?_)
      exact b3 m2 _ (by omega) n1 hsum (by show N 3 = _; rw [n3, en2, if_pos w]) n4 n5
    · have w : ¬ htN (τ.2.2 28) x ≤ mH H0 c i := fun z => w ((n_le (by omega) (by omega)).mpr z)
      refine Um_ob (Um_t (s_height hS x2 rfl) (fun k => f_height k _ _ _)) (fun r3 hr3 => ?_)
      rw [hr3]
      exact b3 m1 _ (by omega) n1 hsum (by show nI (htN (τ.2.2 28) x) = _; rw [en2, if_neg w]) n4 n5
  refine Um_suc rfl (fun k => by rw [x_measured]) (fun m1 _ => ?_)
  rw [hL, n_add1, n_cl (p := h + 1) (by omega), th1]
  refine Um_chk (fun _ => ?_)
  exact b1 m1 0 _ (Nat.zero_le _) hL rfl rfl rfl rfl
end URW
section KRW
variable {g1 g2 : Nat → Prop} {l1 l2 : List Nat} {B1 h1 B2 h2 n : Nat} {σ1 σ2 : MS}
/-- values of two rows that hold the same -/
def CeE (g1 g2 : Nat → Prop) (H1 H2 : Nat → Int32) (c1 c2 : Nat → Int32) (n : Nat) : Prop := ∀ i, i < n → VC g1 g2 H1 H2 (c1 i) (c2 i)
theorem CeE_sz {H1 H2 : Nat → Int32} {c1 c2 : Nat → Int32} {n : Nat} (h : CeE g1 g2 H1 H2 c1 c2 n) : ∀ i, i ≤ n → sS H2 c2 i = sS H1 c1 i ∧ mH H2 c2 i = mH H1 c1 i := by
  intro i
  induction i with
  | zero => intro _; exact ⟨rfl, rfl⟩
  | succ i ih =>
    intro hi
    obtain ⟨a, b, a1, _, b1, _, ev, ab, bb⟩ := h i (by omega)
    have q := EVb_sz ev
    have p := ih (by omega)
    unfold sS mH
    rw [a1, b1, n_cl (by omega), n_cl (by omega), q.1, q.2.1, p.1, p.2]
    exact ⟨rfl, rfl⟩
/-- two rows made alike -/
theorem RwM_ev {kd n K : Nat} {c1 c2 : Nat → Int32} {r1 r2 : Int32 × MS} (hS1 : HS g1 l1 B1 h1 σ1) (hS2 : HS g2 l2 B2 h2 σ2) (hk : kd = 5 ∨ kd = 6) (hK : 4 + n ≤ K) (hc : CeE g1 g2 (σ1.2.2 28) (σ2.2.2 28) c1 c2 n) (f1 : ∀ i, B1 + 4 ≤ i → i < h1 → r1.2.2.2 28 i = σ1.2.2 28 i) (f2 : ∀ i, B2 + 4 ≤ i → i < h2 → r2.2.2.2 28 i = σ2.2.2 28 i) (b1 : h1 < 1740000) (b2 : h2 < 1740000) (a : RwM (σ1.2.2 28) h1 kd n c1 r1) (b : RwM (σ2.2.2 28) h2 kd n c2 r2) : KQ h1 h2 K r1 r2 := by
  have hb1 := HS_b hS1
  have hb2 := HS_b hS2
  obtain ⟨es, eh⟩ := CeE_sz hc n (Nat.le_refl _)
  obtain ⟨a0, a⟩ := a
  obtain ⟨b0, b⟩ := b
  rw [es, eh] at b
  rcases a with ⟨x1, x2, x3, x4, x5, x6, x7, x8, x9⟩ | ⟨x1, x2⟩
  · rcases b with ⟨y1, y2, y3, y4, y5, y6, y7, y8, y9⟩ | ⟨y1, y2⟩
    · refine ⟨⟨fun _ => y4, fun _ => x4⟩, fun _ => ⟨h1, h2, x3, y3, b1, b2, EVb_mk (by omega) (by omega) (fun i hi => ?_) (fun n' hn' hn2 i hi => Or.inl ⟨?_, ?_⟩)⟩, _, _, a0, b0, by omega, by omega⟩
      · have : i = 0 ∨ i = 1 ∨ i = 2 ∨ i = 3 := by omega
        rcases this with rfl | rfl | rfl | rfl
        · exact y5.trans x5.symm
        · exact y6.trans x6.symm
        · exact y7.trans x7.symm
        · exact y8.trans x8.symm
      · rw [x5]; exact hk.imp (fun e => by rw [e]) (fun e => by rw [e])
      · have hnn : n ≤ 1000 := by
          have : n ≤ sS (σ1.2.2 28) c1 n := (sS_b hS1 (fun i hi => by
            obtain ⟨m, _, m1, m2, _⟩ := hc i hi
            exact ⟨m, m1, m2⟩) n (Nat.le_refl _)).1
          omega
        have e : n = n' := (n_eq (by omega) (by omega)).mp (x6.symm.trans hn')
        subst e
        obtain ⟨u, v, u1, u2, v1, v2, ev, ub, vb⟩ := hc i hi
        exact ⟨u, v, (x9 i hi).trans u1, ub, (y9 i hi).trans v1, vb, EVb_g2 hS1.2.2.2.2 hb1.2 f1 hS2.2.2.2.2 hb2.2 f2 u2 v2 ev⟩
    · exact absurd ⟨x1, x2⟩ y1
  · rcases b with ⟨y1, y2, _⟩ | ⟨y1, y2⟩
    · exact absurd ⟨y1, y2⟩ x1
    · exact ⟨⟨fun z => absurd z x2, fun z => absurd z y2⟩, fun z => absurd z x2, _, _, a0, b0, by omega, by omega⟩
end KRW
end JnS165
section JnS166
/-! Two runs side by side (reference): tuples. -/
section UTP
variable {g : Nat → Prop} {l : List Nat} {B h t : Nat} {σ : MS}
/-- a tuple is filled and measured -/
theorem u_tup3 {m f w : Nat} (hS : HS g l B h σ) (h56 : σ.1 56 = 0) (hfw : f + w ≤ 185000) (hr : h + 4 + w ≤ B + 870000) (hV : PLv g (σ.2.2 29) f w) {N : Nat → Int32} (n1 : N 1 = nI f) (n2 : N 2 = nI w) : Um m (fun k => x_tupleOf k 3 N σ) (RwM (σ.2.2 28) h 5 w (fun i => σ.2.2 29 (f + i))) := by
  have hb := HS_b hS
  have hB := hS.2.1
  refine Um_suc rfl (fun k => by rw [x_tupleOf]) (fun m1 _ => ?_)
  rw [n2]
  refine Um_ob (u_make hS (n := w) (by omega) hr rfl) (fun r hr' => ?_)
  rw [hr']
  refine Um_ite (fun _ => ?_) (fun z => absurd (by rw [mMk_s (by decide), h56]; decide) z)
  refine Um_suc rfl (fun k => by rw [x_tupleOf]) (fun m2 _ => ?_)
  have l5 : ∀ (m i : Nat) (M : Nat → Int32) (τ : MS), i ≤ w → M 1 = nI f → M 2 = nI w → M 3 = nI h → M 4 = nI i → τ.1 54 = σ.1 54 → τ.1 56 = 0 → τ.1 55 = nI (h + 4 + w) → τ.2.2 29 = σ.2.2 29 → τ.2.2 28 h = nI 5 → τ.2.2 28 (h + 1) = nI w → (∀ k, k < i → τ.2.2 28 (h + 4 + k) = σ.2.2 29 (f + k)) → (∀ k, B + 4 ≤ k → k < h → τ.2.2 28 k = σ.2.2 28 k) → Um m (fun k => x_tupleOf k 5 M τ) (RwM (σ.2.2 28) h 5 w (fun i => σ.2.2 29 (f + i))) := by
    intro m
    induction m using Nat.strongRecOn with
    | ind m ih =>
    intro i M τ hi m1 m2 m3 m4 t54 t56 t55 t29 th th1 tc hag
    refine Um_suc rfl (fun k => by rw [x_tupleOf]) (fun k1 hk1 => ?_)
    rw [m2, m4, m1, m3, n_add (p := f) (by omega), show nI h + 4 = nI (h + 4) from n_add (q := 4) (by omega), n_add (p := h + 4) (by omega), n_cl (p := h + 4 + i) (by omega), n_cl (p := f + i) (by omega)]
    refine Um_ite (fun y => ?_) (fun y => ?_)
    · have y := (n_le (by omega) (by omega)).mp y
      have e : i = w := by omega
      rw [e] at tc
      refine Um_suc rfl (fun k => by rw [x_tupleOf]) (fun k2 hk2 => ?_)
      have hSt : HS g (l ++ [h]) B (h + 4 + w) τ := HS_fin hS hr t54 t55 hag th1
      refine Um_ob (u_measured (c := fun i => σ.2.2 29 (f + i)) hSt (by omega) t56 t55 th th1 tc (fun i hi => hV i hi) (fun m hm => ?_) (by exact m3)) (fun r hr => Um_some hr)
      have a := szN_ext (H' := τ.2.2 28) hag hS.2.2.2.2 (by omega) hm
      exact ⟨a.1.symm, a.2.symm⟩
    have hiw : i < w := by
      by_cases e : w ≤ i
      · exact absurd ((n_le (by omega) (by omega)).mpr e) y
      · omega
    refine Um_chk (fun _ => ?_)
    refine Um_chk (fun _ => ?_)
    rw [t29]
    show Um k1 (fun k => x_tupleOf k 6 M (mAr τ 28 (h + 4 + i) (σ.2.2 29 (f + i)))) _
    refine Um_suc rfl (fun k => by rw [x_tupleOf]) (fun k2 hk2 => ?_)
    have u : ∀ j, j ≠ h + 4 + i → (mAr τ 28 (h + 4 + i) (σ.2.2 29 (f + i))).2.2 28 j = τ.2.2 28 j := fun j hj => by rw [mAr_s, upd_other hj]
    refine ih k2 (by omega) (i + 1) _ _ (by omega) m1 m2 m3 (by show M 4 + 1 = _; rw [m4, n_add1]) t54 t56 t55 (by rw [mAr_o (by decide)]; exact t29) ((u _ (by omega)).trans th) ((u _ (by omega)).trans th1) (fun k hk => ?_) (fun k h1 h2 => (u _ (by omega)).trans (hag k h1 h2))
    by_cases e : k = i
    · rw [e, mAr_s, upd_same]
    · exact (u _ (by omega)).trans (tc k (by omega))
  refine l5 m2 0 _ _ (Nat.zero_le _) n1 n2 rfl rfl (mMk_s (by decide)) ((mMk_s (by decide)).trans h56) ?_ (mMk_o (by decide)) ?_ ?_ (fun k hk => absurd hk (Nat.not_lt_zero k)) (fun i h1 h2 => ?_)
  · show nI (h + (4 + w)) = _
    rw [Nat.add_assoc]
  · show (mMk σ h _ w).2.2 28 h = _
    rw [mMk_28, upd_other (by omega), upd_other (by omega), upd_other (by omega), upd_same]; rfl
  · show (mMk σ h _ w).2.2 28 (h + 1) = _
    rw [mMk_28, upd_other (by omega), upd_other (by omega), upd_same]
  · show (mMk σ h _ w).2.2 28 i = _
    rw [mMk_28, upd_other (by omega), upd_other (by omega), upd_other (by omega), upd_other (by omega)]
end UTP
section KTP
variable {g1 g2 : Nat → Prop} {l1 l2 : List Nat} {B1 h1 B2 h2 n : Nat} {σ1 σ2 : MS}
/-- values upon the pile that hold the same -/
def PlE (g1 g2 : Nat → Prop) (σ1 σ2 : MS) (f w : Nat) : Prop := CeE g1 g2 (σ1.2.2 28) (σ2.2.2 28) (fun i => σ1.2.2 29 (f + i)) (fun i => σ2.2.2 29 (f + i)) w
theorem PlE_1 {f w : Nat} (h : PlE g1 g2 σ1 σ2 f w) : PLv g1 (σ1.2.2 29) f w := fun i hi => by
  obtain ⟨a, b, a1, a2, _⟩ := h i hi
  exact ⟨a, a1, a2⟩
theorem PlE_2 {f w : Nat} (h : PlE g1 g2 σ1 σ2 f w) : PLv g2 (σ2.2.2 29) f w := fun i hi => by
  obtain ⟨a, b, _, _, b1, b2, _⟩ := h i hi
  exact ⟨b, b1, b2⟩
theorem PlE_mo {f w v : Nat} (h : PlE g1 g2 σ1 σ2 f w) (hv : v ≤ w) : PlE g1 g2 σ1 σ2 f v := fun i hi => h i (by omega)
theorem VC_0 {H1 H2 : Nat → Int32} {x y : Int32} (h : VC g1 g2 H1 H2 x y) : x = 0 ↔ y = 0 := by
  obtain ⟨a, b, a1, _, b1, _, ev, ab, bb⟩ := h
  rw [a1, b1]
  rcases EVb_3 ev with ⟨z1, z2⟩ | ⟨z1, z2⟩
  · rw [z2]
  · constructor
    · intro z; have := (n_eq0 (by omega)).mp z; omega
    · intro z; have := (n_eq0 (by omega)).mp z; omega
theorem k_tupleOf {f w : Nat} (hS1 : HS g1 l1 B1 h1 σ1) (hS2 : HS g2 l2 B2 h2 σ2) (e1 : σ1.1 56 = 0) (e2 : σ2.1 56 = 0) (t1 : σ1.1 59 = nI (f + w)) (t2 : σ2.1 59 = nI (f + w)) (hfw : f + w ≤ 185000) (hr1 : h1 + 4 + w ≤ B1 + 870000) (hr2 : h2 + 4 + w ≤ B2 + 870000) (hP : PlE g1 g2 σ1 σ2 f w) {L1 L2 : Nat → Int32} (d1 : L1 1 = nI f) (d2 : L2 1 = nI f) : Pm n (fun k => x_tupleOf k 0 L1 σ1) (fun k => x_tupleOf k 0 L2 σ2) (KQ h1 h2 (4 + w)) := by
  have hb1 := HS_b hS1
  have hb2 := HS_b hS2
  have x1 := hS1.2.1
  have x2 := hS2.2.1
  have un1 := s_tupleOf hS1 ⟨0, e1, by decide⟩ t1 hfw (PlE_1 hP) d1
  have un2 := s_tupleOf hS2 ⟨0, e2, by decide⟩ t2 hfw (PlE_2 hP) d2
  have core : Pm n (fun k => x_tupleOf k 0 L1 σ1) (fun k => x_tupleOf k 0 L2 σ2) (fun r1 r2 => ∃ v, v ≤ w ∧ RwM (σ1.2.2 28) h1 5 v (fun i => σ1.2.2 29 (f + i)) r1 ∧ RwM (σ2.2.2 28) h2 5 v (fun i => σ2.2.2 29 (f + i)) r2) := by
    have b2 : ∀ (m v : Nat) (N1 N2 : Nat → Int32), v ≤ w → N1 1 = nI f → N2 1 = nI f → N1 2 = nI v → N2 2 = nI v → Pm m (fun k => x_tupleOf k 2 N1 σ1) (fun k => x_tupleOf k 2 N2 σ2) (fun r1 r2 => ∃ v, v ≤ w ∧ RwM (σ1.2.2 28) h1 5 v (fun i => σ1.2.2 29 (f + i)) r1 ∧ RwM (σ2.2.2 28) h2 5 v (fun i => σ2.2.2 29 (f + i)) r2) := by
      intro m v N1 N2 hv y1 y2 y3 y4
      refine Pm_suc rfl (fun k => by rw [x_tupleOf]) (fun k => by rw [x_tupleOf]) (fun m1 _ => ?_)
      rw [y1, y2]
      show Pm m1 (fun k => x_tupleOf k 3 N1 (mSc σ1 59 (nI f))) (fun k => x_tupleOf k 3 N2 (mSc σ2 59 (nI f))) _
      refine Pm_mono (Pm_u2 (u_tup3 (σ := mSc σ1 59 (nI f)) (HS_c hS1 rfl rfl rfl) e1 (by omega) (by omega) (fun i hi => PlE_1 hP i (by omega)) y1 y3) (u_tup3 (σ := mSc σ2 59 (nI f)) (HS_c hS2 rfl rfl rfl) e2 (by omega) (by omega) (fun i hi => PlE_2 hP i (by omega)) y2 y4)) (fun r1 r2 hr => ⟨v, hv, hr.1, hr.2⟩)
    have b1 : ∀ (v m : Nat) (N1 N2 : Nat → Int32), v ≤ w → N1 1 = nI f → N2 1 = nI f → N1 2 = nI v → N2 2 = nI v → Pm m (fun k => x_tupleOf k 1 N1 σ1) (fun k => x_tupleOf k 1 N2 σ2) (fun r1 r2 => ∃ v, v ≤ w ∧ RwM (σ1.2.2 28) h1 5 v (fun i => σ1.2.2 29 (f + i)) r1 ∧ RwM (σ2.2.2 28) h2 5 v (fun i => σ2.2.2 29 (f + i)) r2) := by
      intro v
      induction v with
      | zero =>
        intro m N1 N2 hv y1 y2 y3 y4
        refine Pm_suc rfl (fun k => by rw [x_tupleOf]) (fun k => by rw [x_tupleOf]) (fun m1 _ => ?_)
        rw [y3, y4]
        exact Pm_ite Iff.rfl (fun _ _ => b2 m1 0 N1 N2 hv y1 y2 y3 y4) (fun z _ => absurd (by decide) z)
      | succ v ih =>
        intro m N1 N2 hv y1 y2 y3 y4
        refine Pm_suc rfl (fun k => by rw [x_tupleOf]) (fun k => by rw [x_tupleOf]) (fun m1 _ => ?_)
        rw [y3, y4, y1, y2, n_add (by omega), show nI (f + (v + 1)) - 1 = nI (f + v) from n_sub (p := f + (v + 1)) (q := 1) (by omega) (by omega), n_cl (p := f + v) (by omega)]
        refine Pm_ite Iff.rfl (fun z _ => absurd ((n_le0 (by omega)).mp z) (by omega)) (fun _ _ => ?_)
        refine Pm_chk (fun _ _ => ?_)
        refine Pm_ite (VC_0 (hP v (by omega))) (fun _ _ => ?_) (fun _ _ => b2 m1 (v + 1) N1 N2 hv y1 y2 y3 y4)
        exact ih m1 _ _ (by omega) y1 y2 (n_pred v (by omega)) (n_pred v (by omega))
    refine Pm_suc rfl (fun k => by rw [x_tupleOf]) (fun k => by rw [x_tupleOf]) (fun m1 _ => ?_)
    rw [t1, t2, d1, d2, n_sub (by omega) (by omega), show f + w - f = w by omega]
    exact b1 w m1 _ _ (Nat.le_refl _) d1 d2 rfl rfl
  refine Pm_mono (Pm_un un1 (fun k => f_tupleOf k _ _ _) un2 (fun k => f_tupleOf k _ _ _) core) (fun r1 r2 hr => ?_)
  obtain ⟨⟨v, hv, a, b⟩, ⟨_, _, _, u1, _⟩, ⟨_, _, _, u2, _⟩⟩ := hr
  exact RwM_ev hS1 hS2 (Or.inl rfl) (by omega) (PlE_mo hP hv) u1.2.2.2 u2.2.2.2 (by omega) (by omega) a b
end KTP
end JnS166
section JnS167
/-! Two runs side by side (reference): rows are merged. -/
/-- locals are the same but for 100 -/
def LX (N1 N2 : Nat → Int32) : Prop := ∀ i, i ≠ 100 → N1 i = N2 i
theorem LX_u {N1 N2 : Nat → Int32} {j : Nat} {x y : Int32} (h : LX N1 N2) (e : j = 100 ∨ x = y) : LX (upd N1 j x) (upd N2 j y) := fun i hi => by
  by_cases c : i = j
  · rcases e with e | e
    · omega
    · rw [c, upd_same, upd_same, e]
  · rw [upd_other c, upd_other c]; exact h i hi
section KMG
variable {g1 g2 : Nat → Prop} {l1 l2 : List Nat} {B1 h1 B2 h2 n : Nat} {σ1 σ2 : MS}
theorem k_merge {f w a b c : Nat} (hS1 : HS g1 l1 B1 h1 σ1) (hS2 : HS g2 l2 B2 h2 σ2) (hP : PlE g1 g2 σ1 σ2 f w) (hw : w ≤ 60100) (hfw : f + w ≤ 185000) (hab : a ≤ b) (hbc : b ≤ c) (hcw : c ≤ w) {L1 L2 : Nat → Int32} (hL : LX L1 L2) (d1 : L1 1 = nI f) (d2 : L1 2 = nI a) (d3 : L1 3 = nI b) (d4 : L1 4 = nI c) : Pm n (fun k => x_merge k 0 L1 σ1) (fun k => x_merge k 0 L2 σ2) (fun r1 r2 => ∀ i, a ≤ i → i < c → VC g1 g2 (σ1.2.2 28) (σ2.2.2 28) (r1.2.2.2 41 i) (r2.2.2.2 41 i)) := by
  have lp : ∀ (m p q k : Nat) (N1 N2 : Nat → Int32) (τ1 τ2 : MS), a ≤ p → p ≤ b → b ≤ q → q ≤ c → k + b = p + q → LX N1 N2 → N1 1 = nI f → N1 3 = nI b → N1 4 = nI c → N1 5 = nI p → N1 6 = nI q → N1 7 = nI k → (∀ j, τ1.1 j = σ1.1 j) → (∀ j, τ2.1 j = σ2.1 j) → (∀ j, j ≠ 41 → τ1.2.2 j = σ1.2.2 j) → (∀ j, j ≠ 41 → τ2.2.2 j = σ2.2.2 j) → (∀ i, a ≤ i → i < k → VC g1 g2 (σ1.2.2 28) (σ2.2.2 28) (τ1.2.2 41 i) (τ2.2.2 41 i)) → Pm m (fun k => x_merge k 1 N1 τ1) (fun k => x_merge k 1 N2 τ2) (fun r1 r2 => ∀ i, a ≤ i → i < c → VC g1 g2 (σ1.2.2 28) (σ2.2.2 28) (r1.2.2.2 41 i) (r2.2.2.2 41 i)) := by
    intro m
    induction m using Nat.strongRecOn with
    | ind m ih =>
    intro p q k N1 N2 τ1 τ2 hap hpb hbq hqc hk hN x1 x3 x4 x5 x6 x7 s1 s2 t1 t2 hC
    have y1 : N2 1 = nI f := (hN 1 (by decide)).symm.trans x1
    have y3 : N2 3 = nI b := (hN 3 (by decide)).symm.trans x3
    have y4 : N2 4 = nI c := (hN 4 (by decide)).symm.trans x4
    have y5 : N2 5 = nI p := (hN 5 (by decide)).symm.trans x5
    have y6 : N2 6 = nI q := (hN 6 (by decide)).symm.trans x6
    have y7 : N2 7 = nI k := (hN 7 (by decide)).symm.trans x7
    have hT1 : HS g1 l1 B1 h1 τ1 := HS_c hS1 (s1 54) (s1 55) (t1 28 (by decide))
    have hT2 : HS g2 l2 B2 h2 τ2 := HS_c hS2 (s2 54) (s2 55) (t2 28 (by decide))
    -- behind the choice
    have b6 : ∀ (m' : Nat) (lf : Bool) (M1 M2 : Nat → Int32) (v1 v2 : Int32), m' < m → k < c → (lf = true → p < b) → (lf = false → q < c) → LX M1 M2 → M1 1 = nI f → M1 3 = nI b → M1 4 = nI c → M1 5 = nI p → M1 6 = nI q → M1 7 = nI k → M1 8 = (if lf then 1 else 0) → M1 100 = v1 → M2 100 = v2 → M1 101 = nI k → VC g1 g2 (σ1.2.2 28) (σ2.2.2 28) v1 v2 → Pm m' (fun k => x_merge k 6 M1 τ1) (fun k => x_merge k 6 M2 τ2) (fun r1 r2 => ∀ i, a ≤ i → i < c → VC g1 g2 (σ1.2.2 28) (σ2.2.2 28) (r1.2.2.2 41 i) (r2.2.2.2 41 i)) := by
      intro m' lf M1 M2 v1 v2 hm' hkc hl1 hl2 hM z1 z3 z4 z5 z6 z7 z8 zv1 zv2 z101 hv
      have w101 : M2 101 = nI k := (hM 101 (by decide)).symm.trans z101
      have w5 : M2 5 = nI p := (hM 5 (by decide)).symm.trans z5
      have w6 : M2 6 = nI q := (hM 6 (by decide)).symm.trans z6
      have w7 : M2 7 = nI k := (hM 7 (by decide)).symm.trans z7
      have w8 : M2 8 = (if lf then 1 else 0) := (hM 8 (by decide)).symm.trans z8
      refine Pm_suc rfl (fun k => by rw [x_merge]) (fun k => by rw [x_merge]) (fun k1 hk1 => ?_)
      rw [z101, w101, n_cl (p := k) (by omega), zv1, zv2]
      refine Pm_chk (fun _ _ => ?_)
      show Pm k1 (fun k' => x_merge k' 7 M1 (mAr τ1 41 k v1)) (fun k' => x_merge k' 7 M2 (mAr τ2 41 k v2)) _
      have t1' : ∀ j, j ≠ 41 → (mAr τ1 41 k v1).2.2 j = σ1.2.2 j := fun j hj => (mAr_o hj).trans (t1 j hj)
      have t2' : ∀ j, j ≠ 41 → (mAr τ2 41 k v2).2.2 j = σ2.2.2 j := fun j hj => (mAr_o hj).trans (t2 j hj)
      have hC' : ∀ i, a ≤ i → i < k + 1 → VC g1 g2 (σ1.2.2 28) (σ2.2.2 28) ((mAr τ1 41 k v1).2.2 41 i) ((mAr τ2 41 k v2).2.2 41 i) := fun i hi1 hi2 => by
        rw [mAr_s, mAr_s]
        by_cases e : i = k
        · rw [e, upd_same, upd_same]; exact hv
        · rw [upd_other e, upd_other e]; exact hC i hi1 (by omega)
      cases lf with
      | true =>
        have hpb' := hl1 rfl
        refine Pm_suc rfl (fun k => by rw [x_merge]) (fun k => by rw [x_merge]) (fun k2 hk2 => ?_)
        rw [z8, w8]
        refine Pm_ite Iff.rfl (fun e _ => absurd e (by decide)) (fun _ _ => ?_)
        refine Pm_suc rfl (fun k => by rw [x_merge]) (fun k => by rw [x_merge]) (fun k3 hk3 => ?_)
        rw [show upd (upd M1 100 1) 101 (M1 5) 8 = 1 from z8, show upd (upd M2 100 1) 101 (M2 5) 8 = 1 from w8]
        refine Pm_ite Iff.rfl (fun e _ => absurd e (by decide)) (fun _ _ => ?_)
        refine Pm_suc rfl (fun k => by rw [x_merge]) (fun k => by rw [x_merge]) (fun k4 hk4 => ?_)
        refine ih k4 (by omega) (p + 1) q (k + 1) _ _ _ _ (by omega) (by omega) hbq hqc (by omega) ?_ z1 z3 z4 ?_ ?_ ?_ s1 s2 t1' t2' hC'
        · refine LX_u (LX_u (LX_u (LX_u (LX_u (LX_u (LX_u hM (Or.inl rfl)) (Or.inr ?_)) (Or.inr ?_)) (Or.inl rfl)) (Or.inr ?_)) (Or.inr ?_)) (Or.inr ?_)
          · rw [z5, w5]
          · show M1 5 + 1 = M2 5 + 1
            rw [z5, w5]
          · show M1 6 = M2 6
            rw [z6, w6]
          · show M1 6 + 0 = M2 6 + 0
            rw [z6, w6]
          · show M1 7 + 1 = M2 7 + 1
            rw [z7, w7]
        · show M1 5 + 1 = nI (p + 1)
          rw [z5, n_add1]
        · show M1 6 + 0 = nI q
          rw [z6]; exact Int32.add_zero _
        · show M1 7 + 1 = nI (k + 1)
          rw [z7, n_add1]
      | false =>
        have hqc' := hl2 rfl
        refine Pm_suc rfl (fun k => by rw [x_merge]) (fun k => by rw [x_merge]) (fun k2 hk2 => ?_)
        rw [z8, w8]
        refine Pm_ite Iff.rfl (fun _ _ => ?_) (fun e _ => absurd rfl e)
        refine Pm_suc rfl (fun k => by rw [x_merge]) (fun k => by rw [x_merge]) (fun k3 hk3 => ?_)
        refine Pm_suc rfl (fun k => by rw [x_merge]) (fun k => by rw [x_merge]) (fun k4 hk4 => ?_)
        rw [show upd (upd (upd M1 100 (M1 5)) 100 0) 101 (upd M1 100 (M1 5) 100) 8 = 0 from z8, show upd (upd (upd M2 100 (M2 5)) 100 0) 101 (upd M2 100 (M2 5) 100) 8 = 0 from w8]
        refine Pm_ite Iff.rfl (fun _ _ => ?_) (fun e _ => absurd rfl e)
        refine Pm_suc rfl (fun k => by rw [x_merge]) (fun k => by rw [x_merge]) (fun k5 hk5 => ?_)
        refine Pm_suc rfl (fun k => by rw [x_merge]) (fun k => by rw [x_merge]) (fun k6 hk6 => ?_)
        refine ih k6 (by omega) p (q + 1) (k + 1) _ _ _ _ hap hpb (by omega) (by omega) (by omega) ?_ z1 z3 z4 ?_ ?_ ?_ s1 s2 t1' t2' hC'
        · intro i hi
          by_cases i7 : i = 7
          · subst i7
            show M1 7 + 1 = M2 7 + 1
            rw [z7, w7]
          by_cases i6 : i = 6
          · subst i6
            show M1 6 + 1 = M2 6 + 1
            rw [z6, w6]
          by_cases i101 : i = 101
          · subst i101
            show M1 6 = M2 6
            rw [z6, w6]
          by_cases i5 : i = 5
          · subst i5
            show M1 5 + 0 = M2 5 + 0
            rw [z5, w5]
          rw [upd_other i7, upd_other i6, upd_other i101, upd_other hi, upd_other hi, upd_other i5, upd_other i101, upd_other hi, upd_other hi, upd_other i7, upd_other i6, upd_other i101, upd_other hi, upd_other hi, upd_other i5, upd_other i101, upd_other hi, upd_other hi]
          exact hM i hi
        · show M1 5 + 0 = nI p
          rw [z5]; exact Int32.add_zero _
        · show M1 6 + 1 = nI (q + 1)
          rw [z6, n_add1]
        · show M1 7 + 1 = nI (k + 1)
          rw [z7, n_add1]
    have cell : ∀ i, i < w → VC g1 g2 (σ1.2.2 28) (σ2.2.2 28) (τ1.2.2 29 (f + i)) (τ2.2.2 29 (f + i)) := fun i hi => by
      rw [t1 29 (by decide), t2 29 (by decide)]; exact hP i hi
    have b2 : ∀ m', m' < m → k < c → p < b → Pm m' (fun k => x_merge k 2 N1 τ1) (fun k => x_merge k 2 N2 τ2) (fun r1 r2 => ∀ i, a ≤ i → i < c → VC g1 g2 (σ1.2.2 28) (σ2.2.2 28) (r1.2.2.2 41 i) (r2.2.2.2 41 i)) := fun m' hm' hkc hpb' => by
      refine Pm_suc rfl (fun k => by rw [x_merge]) (fun k => by rw [x_merge]) (fun k1 hk1 => ?_)
      refine Pm_suc rfl (fun k => by rw [x_merge]) (fun k => by rw [x_merge]) (fun k2 hk2 => ?_)
      rw [show upd N1 100 1 100 = 1 from rfl, show upd N2 100 1 100 = 1 from rfl]
      refine Pm_ite Iff.rfl (fun e _ => absurd e (by decide)) (fun _ _ => ?_)
      rw [show upd N1 100 1 1 = nI f from x1, show upd N2 100 1 1 = nI f from y1, show upd N1 100 1 5 = nI p from x5, show upd N2 100 1 5 = nI p from y5, n_add (by omega), n_cl (p := f + p) (by omega)]
      refine Pm_chk (fun _ _ => ?_)
      exact b6 k2 true _ _ _ _ (by omega) hkc (fun _ => hpb') (fun e => absurd e (by decide)) (LX_u (LX_u (LX_u (LX_u hN (Or.inl rfl)) (Or.inr rfl)) (Or.inl rfl)) (Or.inr (by show N1 7 = N2 7; rw [x7, y7]))) x1 x3 x4 x5 x6 x7 rfl rfl rfl x7 (cell p (by omega))
    have b3 : ∀ m', m' < m → k < c → q < c → Pm m' (fun k => x_merge k 3 N1 τ1) (fun k => x_merge k 3 N2 τ2) (fun r1 r2 => ∀ i, a ≤ i → i < c → VC g1 g2 (σ1.2.2 28) (σ2.2.2 28) (r1.2.2.2 41 i) (r2.2.2.2 41 i)) := fun m' hm' hkc hqc' => by
      refine Pm_suc rfl (fun k => by rw [x_merge]) (fun k => by rw [x_merge]) (fun k1 hk1 => ?_)
      refine Pm_suc rfl (fun k => by rw [x_merge]) (fun k => by rw [x_merge]) (fun k2 hk2 => ?_)
      rw [show upd N1 100 0 100 = 0 from rfl, show upd N2 100 0 100 = 0 from rfl]
      refine Pm_ite Iff.rfl (fun _ _ => ?_) (fun e _ => absurd rfl e)
      refine Pm_suc rfl (fun k => by rw [x_merge]) (fun k => by rw [x_merge]) (fun k3 hk3 => ?_)
      rw [show upd (upd (upd N1 100 0) 8 0) 100 (upd N1 100 0 7) 1 = nI f from x1, show upd (upd (upd N2 100 0) 8 0) 100 (upd N2 100 0 7) 1 = nI f from y1, show upd (upd (upd N1 100 0) 8 0) 100 (upd N1 100 0 7) 6 = nI q from x6, show upd (upd (upd N2 100 0) 8 0) 100 (upd N2 100 0 7) 6 = nI q from y6, n_add (by omega), n_cl (p := f + q) (by omega)]
      refine Pm_chk (fun _ _ => ?_)
      exact b6 k3 false _ _ _ _ (by omega) hkc (fun e => absurd e (by decide)) (fun _ => hqc') (LX_u (LX_u (LX_u (LX_u (LX_u hN (Or.inl rfl)) (Or.inr rfl)) (Or.inl rfl)) (Or.inl rfl)) (Or.inr (by show N1 7 = N2 7; rw [x7, y7]))) x1 x3 x4 x5 x6 x7 rfl rfl rfl x7 (cell q (by omega))
    refine Pm_suc rfl (fun k => by rw [x_merge]) (fun k => by rw [x_merge]) (fun k1 hk1 => ?_)
    rw [x4, y4, x7, y7, x6, y6, x3, y3, x5, y5, x1, y1, n_add (p := f) (q := p) (by omega), n_add (p := f) (q := q) (by omega), n_cl (p := f + p) (by omega), n_cl (p := f + q) (by omega)]
    refine Pm_ite Iff.rfl (fun y _ => ?_) (fun y _ => ?_)
    · have y := (n_le (by omega) (by omega)).mp y
      refine Pm_suc rfl (fun k => by rw [x_merge]) (fun k => by rw [x_merge]) (fun k2 hk2 => ?_)
      exact Pm_some (fun i hi1 hi2 => hC i hi1 (by omega))
    have hkc : k < c := by
      by_cases e : c ≤ k
      · exact absurd ((n_le (by omega) (by omega)).mpr e) y
      · omega
    refine Pm_ite Iff.rfl (fun z _ => ?_) (fun z _ => ?_)
    · have z := (n_eq (by omega) (by omega)).mp z
      exact b2 k1 (by omega) hkc (by omega)
    have hqc' : q < c := by
      have : ¬ q = c := fun e => z (by rw [e])
      omega
    refine Pm_ite Iff.rfl (fun _ _ => b3 k1 (by omega) hkc hqc') (fun z2 _ => ?_)
    have hpb' : p < b := by
      by_cases e : b ≤ p
      · exact absurd ((n_le (by omega) (by omega)).mpr e) z2
      · omega
    refine Pm_chk (fun _ _ => ?_)
    refine Pm_chk (fun _ _ => ?_)
    obtain ⟨a1, a2, u1, u2, u3, u4, u5, _, _⟩ := cell p (by omega)
    obtain ⟨c1, c2, v1, v2, v3, v4, v5, _, _⟩ := cell q (by omega)
    rw [u1, u3, v1, v3]
    rw [← t1 28 (by decide), ← t2 28 (by decide)] at u5 v5
    refine Pm_ob (k_compare hT1 hT2 u2 v2 u4 v4 u5 v5 rfl rfl rfl rfl) (fun r1 r2 hr => ?_)
    rw [hr.1, hr.2.1, hr.2.2]
    exact Pm_ite Iff.rfl (fun _ _ => b3 k1 (by omega) hkc hqc') (fun _ _ => b2 k1 (by omega) hkc hpb')
  refine Pm_suc rfl (fun k => by rw [x_merge]) (fun k => by rw [x_merge]) (fun m1 _ => ?_)
  refine lp m1 a b a _ _ _ _ (Nat.le_refl _) hab (Nat.le_refl _) hbc rfl ?_ d1 d3 d4 d2 d3 d2 (fun _ => rfl) (fun _ => rfl) (fun _ _ => rfl) (fun _ _ => rfl) (fun i h1 h2 => by omega)
  exact LX_u (LX_u (LX_u hL (Or.inr (hL 2 (by decide)))) (Or.inr (by show L1 3 = L2 3; exact hL 3 (by decide)))) (Or.inr (by show L1 2 = L2 2; exact hL 2 (by decide)))
end KMG
end JnS167
