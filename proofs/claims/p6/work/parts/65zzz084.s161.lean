/-! Two runs side by side (reference): small, other, literal, intOf. -/
/-- locals from lo on are the same -/
def LEn (lo : Nat) (N1 N2 : Nat → Int32) : Prop := ∀ i, lo ≤ i → N1 i = N2 i
theorem LEn_u {lo : Nat} {N1 N2 : Nat → Int32} {j : Nat} {x y : Int32} (h : LEn lo N1 N2) (e : x = y) : LEn lo (upd N1 j x) (upd N2 j y) := fun i hi => by
  by_cases c : i = j
  · rw [c, upd_same, upd_same, e]
  · rw [upd_other c, upd_other c]; exact h i hi
section KSM
variable {g1 g2 : Nat → Prop} {l1 l2 : List Nat} {B1 h1 B2 h2 n : Nat} {σ1 σ2 : MS}
theorem n_lt300 {c : Nat} (hc : c ≤ 300) (h : ¬ (nI c < 0 ∨ 300 ≤ (nI c).toNatClampNeg)) : c < 300 := by
  rw [n_cl (by omega)] at h
  by_cases e : c < 300
  · exact e
  · exact absurd (Or.inr (by omega)) h
theorem k_small (hS1 : HS g1 l1 B1 h1 σ1) (hS2 : HS g2 l2 B2 h2 σ2) (e1 : σ1.1 56 = 0) (e2 : σ2.1 56 = 0) (hr1 : h1 + 70 ≤ B1 + 870000) (hr2 : h2 + 70 ≤ B2 + 870000) {L1 L2 : Nat → Int32} (hL : LEn 1 L1 L2) : Pm n (fun k => x_small k 0 L1 σ1) (fun k => x_small k 0 L2 σ2) (KQ h1 h2 70) := by
  have b8 : ∀ (m c : Nat) (N1 N2 : Nat → Int32) (τ1 τ2 : MS), c ≤ 300 → LEn 1 N1 N2 → NF σ1 τ1 → NF σ2 τ2 → τ1.1 86 = nI c → τ2.1 86 = nI c → AgN (τ1.2.2 44) (τ2.2.2 44) c → Pm m (fun k => x_small k 8 N1 τ1) (fun k => x_small k 8 N2 τ2) (KQ h1 h2 70) := by
    intro m c N1 N2 τ1 τ2 hc hN n1 n2 c1 c2 hC
    refine Pm_suc rfl (fun k => by rw [x_small]) (fun k => by rw [x_small]) (fun m1 _ => ?_)
    exact Pm_ob (k_wholeOf (NF_HS n1 hS1) (NF_HS n2 hS2) ((n1.1 56 (by decide)).trans e1) ((n2.1 56 (by decide)).trans e2) hr1 hr2 hc c1 c2 hC (by exact hN 100 (by omega))) (fun r1 r2 hr => Pm_some hr)
  have b4 : ∀ (m c : Nat) (N1 N2 : Nat → Int32) (τ1 τ2 : MS), c ≤ 300 → LEn 1 N1 N2 → NF σ1 τ1 → NF σ2 τ2 → τ1.1 86 = nI c → τ2.1 86 = nI c → AgN (τ1.2.2 44) (τ2.2.2 44) c → Pm m (fun k => x_small k 4 N1 τ1) (fun k => x_small k 4 N2 τ2) (KQ h1 h2 70) := by
    intro m
    induction m using Nat.strongRecOn with
    | ind m ih =>
    intro c N1 N2 τ1 τ2 hc hN n1 n2 c1 c2 hC
    refine Pm_suc rfl (fun k => by rw [x_small]) (fun k => by rw [x_small]) (fun m1 hm1 => ?_)
    rw [c1, c2, hN 2 (by omega)]
    refine Pm_ite Iff.rfl (fun _ _ => ?_) (fun _ _ => ?_)
    · refine Pm_suc rfl (fun k => by rw [x_small]) (fun k => by rw [x_small]) (fun m2 hm2 => ?_)
      refine Pm_ite (by rw [hN 1 (by omega)]) (fun _ _ => ?_) (fun _ _ => b8 m2 c _ _ _ _ hc (LEn_u hN rfl) n1 n2 c1 c2 hC)
      refine Pm_suc rfl (fun k => by rw [x_small]) (fun k => by rw [x_small]) (fun m3 hm3 => ?_)
      exact b8 m3 c _ _ _ _ hc (LEn_u hN rfl) n1 n2 c1 c2 hC
    · refine Pm_chk (fun z _ => ?_)
      have hc3 := n_lt300 hc z
      rw [n_cl (p := c) (by omega)]
      show Pm m1 (fun k => x_small k 5 N1 (mAr τ1 44 c (N2 2 &&& 65535))) (fun k => x_small k 5 N2 (mAr τ2 44 c (N2 2 &&& 65535))) _
      refine Pm_suc rfl (fun k => by rw [x_small]) (fun k => by rw [x_small]) (fun m2 hm2 => ?_)
      rw [show (mAr τ1 44 c (N2 2 &&& 65535)).1 86 + 1 = nI (c + 1) by show τ1.1 86 + 1 = _; rw [c1, n_add1], show (mAr τ2 44 c (N2 2 &&& 65535)).1 86 + 1 = nI (c + 1) by show τ2.1 86 + 1 = _; rw [c2, n_add1]]
      show Pm m2 (fun k => x_small k 4 _ (mSc (mAr τ1 44 c (N2 2 &&& 65535)) 86 (nI (c + 1)))) (fun k => x_small k 4 _ (mSc (mAr τ2 44 c (N2 2 &&& 65535)) 86 (nI (c + 1)))) _
      refine ih m2 (by omega) (c + 1) _ _ _ _ (by omega) (LEn_u hN (by rw [hN 2 (by omega)])) (NF_tr n1 (NF_tr (NF_ar (by omega)) (NF_sc (by omega)))) (NF_tr n2 (NF_tr (NF_ar (by omega)) (NF_sc (by omega)))) rfl rfl ?_
      show AgN ((mAr τ1 44 c (N2 2 &&& 65535)).2.2 44) ((mAr τ2 44 c (N2 2 &&& 65535)).2.2 44) (c + 1)
      rw [mAr_s, mAr_s]; exact AgN_up hC rfl
  have b3 : ∀ (m : Nat) (N1 N2 : Nat → Int32), LEn 1 N1 N2 → Pm m (fun k => x_small k 3 N1 (mSc σ1 86 0)) (fun k => x_small k 3 N2 (mSc σ2 86 0)) (KQ h1 h2 70) := by
    intro m N1 N2 hN
    refine Pm_suc rfl (fun k => by rw [x_small]) (fun k => by rw [x_small]) (fun m1 _ => ?_)
    exact b4 m1 0 _ _ _ _ (by omega) (LEn_u hN (hN 100 (by omega))) (NF_sc (by omega)) (NF_sc (by omega)) rfl rfl (fun i hi => absurd hi (Nat.not_lt_zero i))
  refine Pm_suc rfl (fun k => by rw [x_small]) (fun k => by rw [x_small]) (fun m1 _ => ?_)
  show Pm m1 (fun k => x_small k 1 L1 (mSc σ1 86 0)) (fun k => x_small k 1 L2 (mSc σ2 86 0)) _
  refine Pm_suc rfl (fun k => by rw [x_small]) (fun k => by rw [x_small]) (fun m2 _ => ?_)
  refine Pm_ite (by rw [hL 1 (by omega)]) (fun _ _ => ?_) (fun _ _ => b3 m2 _ _ (LEn_u hL (by rw [hL 1 (by omega)])))
  refine Pm_suc rfl (fun k => by rw [x_small]) (fun k => by rw [x_small]) (fun m3 _ => ?_)
  exact b3 m3 _ _ (LEn_u hL (hL 1 (by omega)))
theorem k_other {a1 a2 p : Nat} (hS1 : HS g1 l1 B1 h1 σ1) (hS2 : HS g2 l2 B2 h2 σ2) (e1 : σ1.1 56 = 0) (e2 : σ2.1 56 = 0) (hr1 : h1 + 70 ≤ B1 + 870000) (hr2 : h2 + 70 ≤ B2 + 870000) (hA : WhE σ1 σ2 a1 a2 p) {L1 L2 : Nat → Int32} (d1 : L1 1 = nI a1) (f1 : L2 1 = nI a2) : Pm n (fun k => x_other k 0 L1 σ1) (fun k => x_other k 0 L2 σ2) (KQ h1 h2 70) := by
  have hp := hA.1.2.2.1
  have b2 : ∀ (m i : Nat) (N1 N2 : Nat → Int32) (τ1 τ2 : MS), i ≤ p - 1 → N1 1 = nI a1 → N2 1 = nI a2 → N1 2 = nI i → N2 2 = nI i → NF σ1 τ1 → NF σ2 τ2 → τ1.1 84 = nI (p - 1) → τ2.1 84 = nI (p - 1) → τ1.1 86 = nI (p - 1) → τ2.1 86 = nI (p - 1) → AgN (τ1.2.2 42) (τ2.2.2 42) (p - 1) → AgN (τ1.2.2 44) (τ2.2.2 44) i → Pm m (fun k => x_other k 2 N1 τ1) (fun k => x_other k 2 N2 τ2) (KQ h1 h2 70) := by
    intro m
    induction m using Nat.strongRecOn with
    | ind m ih =>
    intro i N1 N2 τ1 τ2 hi x1 x2 i1 i2 n1 n2 p1 p2 c1 c2 hR hC
    refine Pm_suc rfl (fun k => by rw [x_other]) (fun k => by rw [x_other]) (fun m1 hm1 => ?_)
    rw [p1, p2, i1, i2, n_cl (p := i) (by omega)]
    refine Pm_ite Iff.rfl (fun y _ => ?_) (fun y _ => ?_)
    · have y := (n_le (by omega) (by omega)).mp y
      have e : i = p - 1 := by omega
      rw [e] at hC
      have hU1 := NF_HS n1 hS1
      have hU2 := NF_HS n2 hS2
      refine Pm_suc rfl (fun k => by rw [x_other]) (fun k => by rw [x_other]) (fun m2 hm2 => ?_)
      refine Pm_ob (k_signOf hU1 hU2 (WhE_NF n1 n2 hA) (by exact x1) (by exact x2)) (fun z1 z2 hz => ?_)
      rw [hz.1, hz.2]
      exact Pm_ob (k_wholeOf hU1 hU2 ((n1.1 56 (by decide)).trans e1) ((n2.1 56 (by decide)).trans e2) hr1 hr2 (by omega) c1 c2 hC rfl) (fun r1 r2 hr => Pm_some hr)
    have hip : i < p - 1 := by
      by_cases e : p - 1 ≤ i
      · exact absurd ((n_le (by omega) (by omega)).mpr e) y
      · omega
    refine Pm_chk (fun _ _ => ?_)
    refine Pm_chk (fun _ _ => ?_)
    show Pm m1 (fun k => x_other k 3 N1 (mAr τ1 44 i (τ1.2.2 42 i))) (fun k => x_other k 3 N2 (mAr τ2 44 i (τ2.2.2 42 i))) _
    refine Pm_suc rfl (fun k => by rw [x_other]) (fun k => by rw [x_other]) (fun m2 hm2 => ?_)
    refine ih m2 (by omega) (i + 1) _ _ _ _ (by omega) x1 x2 (by show N1 2 + 1 = _; rw [i1, n_add1]) (by show N2 2 + 1 = _; rw [i2, n_add1]) (NF_tr n1 (NF_ar (by omega))) (NF_tr n2 (NF_ar (by omega))) p1 p2 c1 c2 ?_ ?_
    · rw [mAr_o (by decide), mAr_o (by decide)]; exact hR
    · rw [mAr_s, mAr_s]; exact AgN_up hC (hR i hip)
  refine Pm_suc rfl (fun k => by rw [x_other]) (fun k => by rw [x_other]) (fun m1 _ => ?_)
  refine Pm_ob (k_loadA hS1 hS2 hA (by exact d1) (by exact f1)) (fun r1 r2 hr => ?_)
  obtain ⟨q1, q2, q3, q4, q5⟩ := hr
  rw [q3, q4]
  show Pm m1 (fun k => x_other k 1 L1 (mSc r1.2 86 (nI (p - 1)))) (fun k => x_other k 1 L2 (mSc r2.2 86 (nI (p - 1)))) _
  refine Pm_suc rfl (fun k => by rw [x_other]) (fun k => by rw [x_other]) (fun m2 _ => ?_)
  exact b2 m2 0 _ _ _ _ (Nat.zero_le _) d1 f1 rfl rfl (NF_tr q1 (NF_sc (by omega))) (NF_tr q2 (NF_sc (by omega))) q3 q4 rfl rfl q5 (fun i hi => absurd hi (Nat.not_lt_zero i))
/-- a number of the text -/
theorem k_literal {f w : Nat} (hS1 : HS g1 l1 B1 h1 σ1) (hS2 : HS g2 l2 B2 h2 σ2) (e1 : σ1.1 56 = 0) (e2 : σ2.1 56 = 0) (hr1 : h1 + 70 ≤ B1 + 870000) (hr2 : h2 + 70 ≤ B2 + 870000) (hf : f + w ≤ 70000) (hP : ∀ i, i < f + w → σ1.2.2 12 i = σ2.2.2 12 i) {L1 L2 : Nat → Int32} (hL : LEn 1 L1 L2) (d1 : L1 1 = nI f) (d2 : L1 2 = nI w) : Pm n (fun k => x_literal k 0 L1 σ1) (fun k => x_literal k 0 L2 σ2) (KQ h1 h2 70) := by
  have b2 : ∀ (m c i : Nat) (N1 N2 : Nat → Int32) (τ1 τ2 : MS), c ≤ 300 → i ≤ w → LEn 1 N1 N2 → N1 1 = nI f → N1 2 = nI w → N1 3 = nI i → NF σ1 τ1 → NF σ2 τ2 → τ1.1 86 = nI c → τ2.1 86 = nI c → AgN (τ1.2.2 44) (τ2.2.2 44) c → Pm m (fun k => x_literal k 2 N1 τ1) (fun k => x_literal k 2 N2 τ2) (KQ h1 h2 70) := by
    intro m
    induction m using Nat.strongRecOn with
    | ind m ih =>
    intro c i N1 N2 τ1 τ2 hc hi hN x1 x2 x3 n1 n2 c1 c2 hC
    -- the next digit
    have b7 : ∀ (m' c : Nat) (M1 M2 : Nat → Int32) (υ1 υ2 : MS), m' < m → i < w → c ≤ 300 → LEn 1 M1 M2 → M1 1 = nI f → M1 2 = nI w → M1 3 = nI i → NF σ1 υ1 → NF σ2 υ2 → υ1.1 86 = nI c → υ2.1 86 = nI c → AgN (υ1.2.2 44) (υ2.2.2 44) c → Pm m' (fun k => x_literal k 7 M1 υ1) (fun k => x_literal k 7 M2 υ2) (KQ h1 h2 70) := by
      intro m' c M1 M2 υ1 υ2 hm' hiw hc hM y1 y2 y3 n1 n2 c1 c2 hC
      refine Pm_suc rfl (fun k => by rw [x_literal]) (fun k => by rw [x_literal]) (fun k1 hk1 => ?_)
      exact ih k1 (by omega) c (i + 1) _ _ _ _ hc (by omega) (LEn_u hM (by rw [hM 3 (by omega)])) y1 y2 (by show M1 3 + 1 = _; rw [y3, n_add1]) n1 n2 c1 c2 hC
    have b3 : ∀ (m' j : Nat) (M1 M2 : Nat → Int32) (υ1 υ2 : MS), m' < m → i < w → j ≤ c → LEn 1 M1 M2 → M1 1 = nI f → M1 2 = nI w → M1 3 = nI i → M1 5 = nI j → NF σ1 υ1 → NF σ2 υ2 → υ1.1 86 = nI c → υ2.1 86 = nI c → AgN (υ1.2.2 44) (υ2.2.2 44) c → Pm m' (fun k => x_literal k 3 M1 υ1) (fun k => x_literal k 3 M2 υ2) (KQ h1 h2 70) := by
      intro m'
      induction m' using Nat.strongRecOn with
      | ind m' ihj =>
      intro j M1 M2 υ1 υ2 hm' hiw hj hM y1 y2 y3 y5 n1 n2 c1 c2 hC
      have z5 : M2 5 = nI j := (hM 5 (by omega)).symm.trans y5
      refine Pm_suc rfl (fun k => by rw [x_literal]) (fun k => by rw [x_literal]) (fun k1 hk1 => ?_)
      rw [c1, c2, y5, z5, n_cl (p := j) (by omega)]
      refine Pm_ite Iff.rfl (fun _ _ => ?_) (fun y _ => ?_)
      · refine Pm_suc rfl (fun k => by rw [x_literal]) (fun k => by rw [x_literal]) (fun k2 hk2 => ?_)
        rw [c1, c2]
        refine Pm_ite (by rw [hM 4 (by omega)]) (fun _ _ => b7 k2 c _ _ _ _ (by omega) hiw hc hM y1 y2 y3 n1 n2 c1 c2 hC) (fun _ _ => ?_)
        refine Pm_chk (fun z _ => ?_)
        have hc3 := n_lt300 hc z
        rw [n_cl (p := c) (by omega)]
        show Pm k2 (fun k => x_literal k 6 M1 (mAr υ1 44 c (M1 4))) (fun k => x_literal k 6 M2 (mAr υ2 44 c (M2 4))) _
        refine Pm_suc rfl (fun k => by rw [x_literal]) (fun k => by rw [x_literal]) (fun k3 hk3 => ?_)
        rw [show (mAr υ1 44 c (M1 4)).1 86 + 1 = nI (c + 1) by show υ1.1 86 + 1 = _; rw [c1, n_add1], show (mAr υ2 44 c (M2 4)).1 86 + 1 = nI (c + 1) by show υ2.1 86 + 1 = _; rw [c2, n_add1]]
        show Pm k3 (fun k => x_literal k 7 M1 (mSc (mAr υ1 44 c (M1 4)) 86 (nI (c + 1)))) (fun k => x_literal k 7 M2 (mSc (mAr υ2 44 c (M2 4)) 86 (nI (c + 1)))) _
        refine b7 k3 (c + 1) _ _ _ _ (by omega) hiw (by omega) hM y1 y2 y3 (NF_tr n1 (NF_tr (NF_ar (by omega)) (NF_sc (by omega)))) (NF_tr n2 (NF_tr (NF_ar (by omega)) (NF_sc (by omega)))) rfl rfl ?_
        show AgN ((mAr υ1 44 c (M1 4)).2.2 44) ((mAr υ2 44 c (M2 4)).2.2 44) (c + 1)
        rw [mAr_s, mAr_s]; exact AgN_up hC (hM 4 (by omega))
      have hjc : j < c := by
        by_cases e : c ≤ j
        · exact absurd ((n_le (by omega) (by omega)).mpr e) y
        · omega
      refine Pm_chk (fun _ _ => ?_)
      refine Pm_chk (fun _ _ => ?_)
      have ev : 10 * υ1.2.2 44 j + M1 4 = 10 * υ2.2.2 44 j + M2 4 := by rw [hC j hjc, hM 4 (by omega)]
      rw [ev]
      show Pm k1 (fun k => x_literal k 4 _ (mAr υ1 44 j ((10 * υ2.2.2 44 j + M2 4) &&& 65535))) (fun k => x_literal k 4 _ (mAr υ2 44 j ((10 * υ2.2.2 44 j + M2 4) &&& 65535))) _
      refine Pm_suc rfl (fun k => by rw [x_literal]) (fun k => by rw [x_literal]) (fun k2 hk2 => ?_)
      refine ihj k2 (by omega) (j + 1) _ _ _ _ (by omega) hiw (by omega) (LEn_u (LEn_u (LEn_u hM rfl) rfl) ?_) y1 y2 y3 ?_ (NF_tr n1 (NF_ar (by omega))) (NF_tr n2 (NF_ar (by omega))) c1 c2 ?_
      · show M1 5 + 1 = M2 5 + 1
        rw [y5, z5]
      · show M1 5 + 1 = _
        rw [y5, n_add1]
      · rw [mAr_s, mAr_s]; exact AgN_st hC rfl
    have x3' : N2 3 = nI i := (hN 3 (by omega)).symm.trans x3
    have x1' : N2 1 = nI f := (hN 1 (by omega)).symm.trans x1
    have x2' : N2 2 = nI w := (hN 2 (by omega)).symm.trans x2
    refine Pm_suc rfl (fun k => by rw [x_literal]) (fun k => by rw [x_literal]) (fun m1 hm1 => ?_)
    rw [x1, x2, x3, x1', x2', x3', n_add (p := f) (by omega), n_cl (p := f + i) (by omega)]
    refine Pm_ite Iff.rfl (fun _ _ => ?_) (fun y _ => ?_)
    · refine Pm_suc rfl (fun k => by rw [x_literal]) (fun k => by rw [x_literal]) (fun m2 hm2 => ?_)
      exact Pm_ob (k_wholeOf (NF_HS n1 hS1) (NF_HS n2 hS2) ((n1.1 56 (by decide)).trans e1) ((n2.1 56 (by decide)).trans e2) hr1 hr2 hc c1 c2 hC rfl) (fun r1 r2 hr => Pm_some hr)
    have hiw : i < w := by
      by_cases e : w ≤ i
      · exact absurd ((n_le (by omega) (by omega)).mpr e) y
      · omega
    refine Pm_chk (fun _ _ => ?_)
    refine b3 m1 0 _ _ _ _ (by omega) hiw (Nat.zero_le _) (LEn_u (LEn_u hN ?_) rfl) x1 x2 x3 rfl n1 n2 c1 c2 hC
    rw [n1.2 12 (by decide), n2.2 12 (by decide), hP (f + i) (by omega)]
  refine Pm_suc rfl (fun k => by rw [x_literal]) (fun k => by rw [x_literal]) (fun m1 _ => ?_)
  show Pm m1 (fun k => x_literal k 1 L1 (mSc σ1 86 0)) (fun k => x_literal k 1 L2 (mSc σ2 86 0)) _
  refine Pm_suc rfl (fun k => by rw [x_literal]) (fun k => by rw [x_literal]) (fun m2 _ => ?_)
  exact b2 m2 0 0 _ _ _ _ (by omega) (Nat.zero_le _) (LEn_u hL rfl) d1 d2 rfl (NF_sc (by omega)) (NF_sc (by omega)) rfl rfl (fun i hi => absurd hi (Nat.not_lt_zero i))
/-- a whole as an int -/
theorem k_intOf {a1 a2 p : Nat} (hS1 : HS g1 l1 B1 h1 σ1) (hS2 : HS g2 l2 B2 h2 σ2) (hA : WhE σ1 σ2 a1 a2 p) {L1 L2 : Nat → Int32} {J1 J2 : Nat → Int64} (d1 : L1 1 = nI a1) (f1 : L2 1 = nI a2) (h2 : L1 2 = L2 2) : Pm n (fun k => x_intOf k 0 L1 J1 σ1) (fun k => x_intOf k 0 L2 J2 σ2) (fun r1 r2 => r1.1 = r2.1) := by
  have hp := hA.1.2.2.1
  have hp1 := hA.1.2.1
  have ha1 := hA.1.2.2.2.1
  have ha2 := hA.2.1.2.2.2.1
  have b8 : ∀ (m : Nat) (N1 N2 : Nat → Int32) (K1 K2 : Nat → Int64), N1 100 = N2 100 → Pm m (fun k => x_intOf k 8 N1 K1 σ1) (fun k => x_intOf k 8 N2 K2 σ2) (fun r1 r2 => r1.1 = r2.1) := fun m N1 N2 K1 K2 h => by
    refine Pm_suc rfl (fun k => by rw [x_intOf]) (fun k => by rw [x_intOf]) (fun m1 _ => ?_)
    exact Pm_some h
  have b6 : ∀ (m : Nat) (N1 N2 : Nat → Int32) (K1 K2 : Nat → Int64), N1 1 = nI a1 → N2 1 = nI a2 → N1 100 = N2 100 → Pm m (fun k => x_intOf k 6 N1 K1 σ1) (fun k => x_intOf k 6 N2 K2 σ2) (fun r1 r2 => r1.1 = r2.1) := fun m N1 N2 K1 K2 x1 x2 h => by
    refine Pm_suc rfl (fun k => by rw [x_intOf]) (fun k => by rw [x_intOf]) (fun m1 _ => ?_)
    refine Pm_ob (k_signOf hS1 hS2 hA (by exact x1) (by exact x2)) (fun z1 z2 hz => ?_)
    rw [hz.1, hz.2]
    refine Pm_ite Iff.rfl (fun _ _ => ?_) (fun _ _ => b8 m1 _ _ _ _ (by show - N1 100 = - N2 100; rw [h]))
    refine Pm_suc rfl (fun k => by rw [x_intOf]) (fun k => by rw [x_intOf]) (fun m2 _ => ?_)
    exact b8 m2 _ _ _ _ (by show N1 100 = N2 100; exact h)
  have b1 : ∀ (m i : Nat) (N1 N2 : Nat → Int32) (K1 K2 : Nat → Int64), i ≤ p - 1 → N1 1 = nI a1 → N2 1 = nI a2 → N1 2 = N2 2 → N1 6 = nI i - 1 → N2 6 = nI i - 1 → K1 4 = K2 4 → Pm m (fun k => x_intOf k 1 N1 K1 σ1) (fun k => x_intOf k 1 N2 K2 σ2) (fun r1 r2 => r1.1 = r2.1) := by
    intro m
    induction m using Nat.strongRecOn with
    | ind m ih =>
    intro i N1 N2 K1 K2 hi x1 x2 x3 x6 y6 hK
    refine Pm_suc rfl (fun k => by rw [x_intOf]) (fun k => by rw [x_intOf]) (fun m1 hm1 => ?_)
    rw [x6, y6]
    refine Pm_ite Iff.rfl (fun _ _ => ?_) (fun z _ => ?_)
    · refine Pm_suc rfl (fun k => by rw [x_intOf]) (fun k => by rw [x_intOf]) (fun m2 hm2 => ?_)
      refine Pm_ite (by rw [hK, x3]) (fun _ _ => ?_) (fun _ _ => b6 m2 _ _ _ _ x1 x2 (by show N1 2 + 1 = N2 2 + 1; rw [x3]))
      refine Pm_suc rfl (fun k => by rw [x_intOf]) (fun k => by rw [x_intOf]) (fun m3 hm3 => ?_)
      exact b6 m3 _ _ _ _ x1 x2 (by show (K1 4).toInt32 = (K2 4).toInt32; rw [hK])
    have hi1 : 1 ≤ i := by
      by_cases e : i = 0
      · exact absurd (by rw [e]; decide) z
      · omega
    obtain ⟨j, rfl⟩ : ∃ j, i = j + 1 := ⟨i - 1, by omega⟩
    have ej : nI (j + 1) - 1 = nI j := n_sub1 (by omega)
    rw [ej] at x6 y6
    have b3 : ∀ (m' : Nat) (U1 U2 : Nat → Int64), m' < m → U1 100 = U2 100 → Pm m' (fun k => x_intOf k 3 N1 U1 σ1) (fun k => x_intOf k 3 N2 U2 σ2) (fun r1 r2 => r1.1 = r2.1) := by
      intro m' U1 U2 hm' hU
      refine Pm_suc rfl (fun k => by rw [x_intOf]) (fun k => by rw [x_intOf]) (fun k1 hk1 => ?_)
      exact ih k1 (by omega) j _ _ _ _ (by omega) x1 x2 x3 (by show N1 6 + (-1) = _; rw [x6]; exact (Int32.sub_eq_add_neg _ _).symm) (by show N2 6 + (-1) = _; rw [y6]; exact (Int32.sub_eq_add_neg _ _).symm) hU
    refine Pm_ite (by rw [hK, x3]) (fun _ _ => ?_) (fun _ _ => b3 m1 _ _ (by omega) (by show K1 4 = K2 4; exact hK))
    refine Pm_suc rfl (fun k => by rw [x_intOf]) (fun k => by rw [x_intOf]) (fun m2 hm2 => ?_)
    rw [x1, x2, x6, y6, show nI a1 + 5 = nI (a1 + 5) from n_add (q := 5) (by omega), show nI a2 + 5 = nI (a2 + 5) from n_add (q := 5) (by omega), n_add (p := a1 + 5) (by omega), n_add (p := a2 + 5) (by omega), n_cl (p := a1 + 5 + j) (by omega), n_cl (p := a2 + 5 + j) (by omega)]
    refine Pm_chk (fun _ _ => ?_)
    refine b3 m2 _ _ (by omega) ?_
    have hc := hA.2.2 (j + 1) (by omega)
    show (K1 4 <<< _) ||| (σ1.2.2 28 (a1 + 5 + j)).toInt64 = (K2 4 <<< _) ||| (σ2.2.2 28 (a2 + 5 + j)).toInt64
    rw [hK, show a1 + 5 + j = a1 + 4 + (j + 1) by omega, show a2 + 5 + j = a2 + 4 + (j + 1) by omega, hc]
  refine Pm_suc rfl (fun k => by rw [x_intOf]) (fun k => by rw [x_intOf]) (fun m1 _ => ?_)
  rw [d1, f1, n_add1, n_add1, n_cl (p := a1 + 1) (by omega), n_cl (p := a2 + 1) (by omega), hA.1.1, hA.2.1.1, show nI p - 1 = nI (p - 1) from n_sub (p := p) (q := 1) (by omega) hp1]
  refine Pm_chk (fun _ _ => ?_)
  exact b1 m1 (p - 1) _ _ _ _ (Nat.le_refl _) d1 f1 h2 rfl rfl rfl
end KSM
