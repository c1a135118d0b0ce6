/-! Two runs side by side (reference): rows are merged. -/
/-- locals are the same but for 100 -/
def LX (N1 N2 : Nat → Int32) : Prop := ∀ i, i ≠ 100 → N1 i = N2 i
theorem LX_u {N1 N2 : Nat → Int32} {j : Nat} {x y : Int32} (h : LX N1 N2) (e : j = 100 ∨ x = y) : LX (upd N1 j x) (upd N2 j y) := fun i hi => by
  by_cases c : i = j
  · rcases e with e | e
    · omega
    · rw [c, upd_same, upd_same, e]
  · rw [upd_other c, upd_other c]; exact h i hi
section KMG
variable {g1 g2 : Nat → Prop} {l1 l2 : List Nat} {B1 h1 B2 h2 n : Nat} {σ1 σ2 : MS}
theorem k_merge {f w a b c : Nat} (hS1 : HS g1 l1 B1 h1 σ1) (hS2 : HS g2 l2 B2 h2 σ2) (hP : PlE g1 g2 σ1 σ2 f w) (hw : w ≤ 60100) (hfw : f + w ≤ 185000) (hab : a ≤ b) (hbc : b ≤ c) (hcw : c ≤ w) {L1 L2 : Nat → Int32} (hL : LX L1 L2) (d1 : L1 1 = nI f) (d2 : L1 2 = nI a) (d3 : L1 3 = nI b) (d4 : L1 4 = nI c) : Pm n (fun k => x_merge k 0 L1 σ1) (fun k => x_merge k 0 L2 σ2) (fun r1 r2 => ∀ i, a ≤ i → i < c → VC g1 g2 (σ1.2.2 28) (σ2.2.2 28) (r1.2.2.2 41 i) (r2.2.2.2 41 i)) := by
  have lp : ∀ (m p q k : Nat) (N1 N2 : Nat → Int32) (τ1 τ2 : MS), a ≤ p → p ≤ b → b ≤ q → q ≤ c → k + b = p + q → LX N1 N2 → N1 1 = nI f → N1 3 = nI b → N1 4 = nI c → N1 5 = nI p → N1 6 = nI q → N1 7 = nI k → (∀ j, τ1.1 j = σ1.1 j) → (∀ j, τ2.1 j = σ2.1 j) → (∀ j, j ≠ 41 → τ1.2.2 j = σ1.2.2 j) → (∀ j, j ≠ 41 → τ2.2.2 j = σ2.2.2 j) → (∀ i, a ≤ i → i < k → VC g1 g2 (σ1.2.2 28) (σ2.2.2 28) (τ1.2.2 41 i) (τ2.2.2 41 i)) → Pm m (fun k => x_merge k 1 N1 τ1) (fun k => x_merge k 1 N2 τ2) (fun r1 r2 => ∀ i, a ≤ i → i < c → VC g1 g2 (σ1.2.2 28) (σ2.2.2 28) (r1.2.2.2 41 i) (r2.2.2.2 41 i)) := by
    intro m
    induction m using Nat.strongRecOn with
    | ind m ih =>
    intro p q k N1 N2 τ1 τ2 hap hpb hbq hqc hk hN x1 x3 x4 x5 x6 x7 s1 s2 t1 t2 hC
    have y1 : N2 1 = nI f := (hN 1 (by decide)).symm.trans x1
    have y3 : N2 3 = nI b := (hN 3 (by decide)).symm.trans x3
    have y4 : N2 4 = nI c := (hN 4 (by decide)).symm.trans x4
    have y5 : N2 5 = nI p := (hN 5 (by decide)).symm.trans x5
    have y6 : N2 6 = nI q := (hN 6 (by decide)).symm.trans x6
    have y7 : N2 7 = nI k := (hN 7 (by decide)).symm.trans x7
    have hT1 : HS g1 l1 B1 h1 τ1 := HS_c hS1 (s1 54) (s1 55) (t1 28 (by decide))
    have hT2 : HS g2 l2 B2 h2 τ2 := HS_c hS2 (s2 54) (s2 55) (t2 28 (by decide))
    -- behind the choice
    have b6 : ∀ (m' : Nat) (lf : Bool) (M1 M2 : Nat → Int32) (v1 v2 : Int32), m' < m → k < c → (lf = true → p < b) → (lf = false → q < c) → LX M1 M2 → M1 1 = nI f → M1 3 = nI b → M1 4 = nI c → M1 5 = nI p → M1 6 = nI q → M1 7 = nI k → M1 8 = (if lf then 1 else 0) → M1 100 = v1 → M2 100 = v2 → M1 101 = nI k → VC g1 g2 (σ1.2.2 28) (σ2.2.2 28) v1 v2 → Pm m' (fun k => x_merge k 6 M1 τ1) (fun k => x_merge k 6 M2 τ2) (fun r1 r2 => ∀ i, a ≤ i → i < c → VC g1 g2 (σ1.2.2 28) (σ2.2.2 28) (r1.2.2.2 41 i) (r2.2.2.2 41 i)) := by
      intro m' lf M1 M2 v1 v2 hm' hkc hl1 hl2 hM z1 z3 z4 z5 z6 z7 z8 zv1 zv2 z101 hv
      have w101 : M2 101 = nI k := (hM 101 (by decide)).symm.trans z101
      have w5 : M2 5 = nI p := (hM 5 (by decide)).symm.trans z5
      have w6 : M2 6 = nI q := (hM 6 (by decide)).symm.trans z6
      have w7 : M2 7 = nI k := (hM 7 (by decide)).symm.trans z7
      have w8 : M2 8 = (if lf then 1 else 0) := (hM 8 (by decide)).symm.trans z8
      refine Pm_suc rfl (fun k => by rw [x_merge]) (fun k => by rw [x_merge]) (fun k1 hk1 => ?_)
      rw [z101, w101, n_cl (p := k) (by omega), zv1, zv2]
      refine Pm_chk (fun _ _ => ?_)
      show Pm k1 (fun k' => x_merge k' 7 M1 (mAr τ1 41 k v1)) (fun k' => x_merge k' 7 M2 (mAr τ2 41 k v2)) _
      have t1' : ∀ j, j ≠ 41 → (mAr τ1 41 k v1).2.2 j = σ1.2.2 j := fun j hj => (mAr_o hj).trans (t1 j hj)
      have t2' : ∀ j, j ≠ 41 → (mAr τ2 41 k v2).2.2 j = σ2.2.2 j := fun j hj => (mAr_o hj).trans (t2 j hj)
      have hC' : ∀ i, a ≤ i → i < k + 1 → VC g1 g2 (σ1.2.2 28) (σ2.2.2 28) ((mAr τ1 41 k v1).2.2 41 i) ((mAr τ2 41 k v2).2.2 41 i) := fun i hi1 hi2 => by
        rw [mAr_s, mAr_s]
        by_cases e : i = k
        · rw [e, upd_same, upd_same]; exact hv
        · rw [upd_other e, upd_other e]; exact hC i hi1 (by omega)
      cases lf with
      | true =>
        have hpb' := hl1 rfl
        refine Pm_suc rfl (fun k => by rw [x_merge]) (fun k => by rw [x_merge]) (fun k2 hk2 => ?_)
        rw [z8, w8]
        refine Pm_ite Iff.rfl (fun e _ => absurd e (by decide)) (fun _ _ => ?_)
        refine Pm_suc rfl (fun k => by rw [x_merge]) (fun k => by rw [x_merge]) (fun k3 hk3 => ?_)
        rw [show upd (upd M1 100 1) 101 (M1 5) 8 = 1 from z8, show upd (upd M2 100 1) 101 (M2 5) 8 = 1 from w8]
        refine Pm_ite Iff.rfl (fun e _ => absurd e (by decide)) (fun _ _ => ?_)
        refine Pm_suc rfl (fun k => by rw [x_merge]) (fun k => by rw [x_merge]) (fun k4 hk4 => ?_)
        refine ih k4 (by omega) (p + 1) q (k + 1) _ _ _ _ (by omega) (by omega) hbq hqc (by omega) ?_ z1 z3 z4 ?_ ?_ ?_ s1 s2 t1' t2' hC'
        · refine LX_u (LX_u (LX_u (LX_u (LX_u (LX_u (LX_u hM (Or.inl rfl)) (Or.inr ?_)) (Or.inr ?_)) (Or.inl rfl)) (Or.inr ?_)) (Or.inr ?_)) (Or.inr ?_)
          · rw [z5, w5]
          · show M1 5 + 1 = M2 5 + 1
            rw [z5, w5]
          · show M1 6 = M2 6
            rw [z6, w6]
          · show M1 6 + 0 = M2 6 + 0
            rw [z6, w6]
          · show M1 7 + 1 = M2 7 + 1
            rw [z7, w7]
        · show M1 5 + 1 = nI (p + 1)
          rw [z5, n_add1]
        · show M1 6 + 0 = nI q
          rw [z6]; exact Int32.add_zero _
        · show M1 7 + 1 = nI (k + 1)
          rw [z7, n_add1]
      | false =>
        have hqc' := hl2 rfl
        refine Pm_suc rfl (fun k => by rw [x_merge]) (fun k => by rw [x_merge]) (fun k2 hk2 => ?_)
        rw [z8, w8]
        refine Pm_ite Iff.rfl (fun _ _ => ?_) (fun e _ => absurd rfl e)
        refine Pm_suc rfl (fun k => by rw [x_merge]) (fun k => by rw [x_merge]) (fun k3 hk3 => ?_)
        refine Pm_suc rfl (fun k => by rw [x_merge]) (fun k => by rw [x_merge]) (fun k4 hk4 => ?_)
        rw [show upd (upd (upd M1 100 (M1 5)) 100 0) 101 (upd M1 100 (M1 5) 100) 8 = 0 from z8, show upd (upd (upd M2 100 (M2 5)) 100 0) 101 (upd M2 100 (M2 5) 100) 8 = 0 from w8]
        refine Pm_ite Iff.rfl (fun _ _ => ?_) (fun e _ => absurd rfl e)
        refine Pm_suc rfl (fun k => by rw [x_merge]) (fun k => by rw [x_merge]) (fun k5 hk5 => ?_)
        refine Pm_suc rfl (fun k => by rw [x_merge]) (fun k => by rw [x_merge]) (fun k6 hk6 => ?_)
        refine ih k6 (by omega) p (q + 1) (k + 1) _ _ _ _ hap hpb (by omega) (by omega) (by omega) ?_ z1 z3 z4 ?_ ?_ ?_ s1 s2 t1' t2' hC'
        · intro i hi
          by_cases i7 : i = 7
          · subst i7
            show M1 7 + 1 = M2 7 + 1
            rw [z7, w7]
          by_cases i6 : i = 6
          · subst i6
            show M1 6 + 1 = M2 6 + 1
            rw [z6, w6]
          by_cases i101 : i = 101
          · subst i101
            show M1 6 = M2 6
            rw [z6, w6]
          by_cases i5 : i = 5
          · subst i5
            show M1 5 + 0 = M2 5 + 0
            rw [z5, w5]
          rw [upd_other i7, upd_other i6, upd_other i101, upd_other hi, upd_other hi, upd_other i5, upd_other i101, upd_other hi, upd_other hi, upd_other i7, upd_other i6, upd_other i101, upd_other hi, upd_other hi, upd_other i5, upd_other i101, upd_other hi, upd_other hi]
          exact hM i hi
        · show M1 5 + 0 = nI p
          rw [z5]; exact Int32.add_zero _
        · show M1 6 + 1 = nI (q + 1)
          rw [z6, n_add1]
        · show M1 7 + 1 = nI (k + 1)
          rw [z7, n_add1]
    have cell : ∀ i, i < w → VC g1 g2 (σ1.2.2 28) (σ2.2.2 28) (τ1.2.2 29 (f + i)) (τ2.2.2 29 (f + i)) := fun i hi => by
      rw [t1 29 (by decide), t2 29 (by decide)]; exact hP i hi
    have b2 : ∀ m', m' < m → k < c → p < b → Pm m' (fun k => x_merge k 2 N1 τ1) (fun k => x_merge k 2 N2 τ2) (fun r1 r2 => ∀ i, a ≤ i → i < c → VC g1 g2 (σ1.2.2 28) (σ2.2.2 28) (r1.2.2.2 41 i) (r2.2.2.2 41 i)) := fun m' hm' hkc hpb' => by
      refine Pm_suc rfl (fun k => by rw [x_merge]) (fun k => by rw [x_merge]) (fun k1 hk1 => ?_)
      refine Pm_suc rfl (fun k => by rw [x_merge]) (fun k => by rw [x_merge]) (fun k2 hk2 => ?_)
      rw [show upd N1 100 1 100 = 1 from rfl, show upd N2 100 1 100 = 1 from rfl]
      refine Pm_ite Iff.rfl (fun e _ => absurd e (by decide)) (fun _ _ => ?_)
      rw [show upd N1 100 1 1 = nI f from x1, show upd N2 100 1 1 = nI f from y1, show upd N1 100 1 5 = nI p from x5, show upd N2 100 1 5 = nI p from y5, n_add (by omega), n_cl (p := f + p) (by omega)]
      refine Pm_chk (fun _ _ => ?_)
      exact b6 k2 true _ _ _ _ (by omega) hkc (fun _ => hpb') (fun e => absurd e (by decide)) (LX_u (LX_u (LX_u (LX_u hN (Or.inl rfl)) (Or.inr rfl)) (Or.inl rfl)) (Or.inr (by show N1 7 = N2 7; rw [x7, y7]))) x1 x3 x4 x5 x6 x7 rfl rfl rfl x7 (cell p (by omega))
    have b3 : ∀ m', m' < m → k < c → q < c → Pm m' (fun k => x_merge k 3 N1 τ1) (fun k => x_merge k 3 N2 τ2) (fun r1 r2 => ∀ i, a ≤ i → i < c → VC g1 g2 (σ1.2.2 28) (σ2.2.2 28) (r1.2.2.2 41 i) (r2.2.2.2 41 i)) := fun m' hm' hkc hqc' => by
      refine Pm_suc rfl (fun k => by rw [x_merge]) (fun k => by rw [x_merge]) (fun k1 hk1 => ?_)
      refine Pm_suc rfl (fun k => by rw [x_merge]) (fun k => by rw [x_merge]) (fun k2 hk2 => ?_)
      rw [show upd N1 100 0 100 = 0 from rfl, show upd N2 100 0 100 = 0 from rfl]
      refine Pm_ite Iff.rfl (fun _ _ => ?_) (fun e _ => absurd rfl e)
      refine Pm_suc rfl (fun k => by rw [x_merge]) (fun k => by rw [x_merge]) (fun k3 hk3 => ?_)
      rw [show upd (upd (upd N1 100 0) 8 0) 100 (upd N1 100 0 7) 1 = nI f from x1, show upd (upd (upd N2 100 0) 8 0) 100 (upd N2 100 0 7) 1 = nI f from y1, show upd (upd (upd N1 100 0) 8 0) 100 (upd N1 100 0 7) 6 = nI q from x6, show upd (upd (upd N2 100 0) 8 0) 100 (upd N2 100 0 7) 6 = nI q from y6, n_add (by omega), n_cl (p := f + q) (by omega)]
      refine Pm_chk (fun _ _ => ?_)
      exact b6 k3 false _ _ _ _ (by omega) hkc (fun e => absurd e (by decide)) (fun _ => hqc') (LX_u (LX_u (LX_u (LX_u (LX_u hN (Or.inl rfl)) (Or.inr rfl)) (Or.inl rfl)) (Or.inl rfl)) (Or.inr (by show N1 7 = N2 7; rw [x7, y7]))) x1 x3 x4 x5 x6 x7 rfl rfl rfl x7 (cell q (by omega))
    refine Pm_suc rfl (fun k => by rw [x_merge]) (fun k => by rw [x_merge]) (fun k1 hk1 => ?_)
    rw [x4, y4, x7, y7, x6, y6, x3, y3, x5, y5, x1, y1, n_add (p := f) (q := p) (by omega), n_add (p := f) (q := q) (by omega), n_cl (p := f + p) (by omega), n_cl (p := f + q) (by omega)]
    refine Pm_ite Iff.rfl (fun y _ => ?_) (fun y _ => ?_)
    · have y := (n_le (by omega) (by omega)).mp y
      refine Pm_suc rfl (fun k => by rw [x_merge]) (fun k => by rw [x_merge]) (fun k2 hk2 => ?_)
      exact Pm_some (fun i hi1 hi2 => hC i hi1 (by omega))
    have hkc : k < c := by
      by_cases e : c ≤ k
      · exact absurd ((n_le (by omega) (by omega)).mpr e) y
      · omega
    refine Pm_ite Iff.rfl (fun z _ => ?_) (fun z _ => ?_)
    · have z := (n_eq (by omega) (by omega)).mp z
      exact b2 k1 (by omega) hkc (by omega)
    have hqc' : q < c := by
      have : ¬ q = c := fun e => z (by rw [e])
      omega
    refine Pm_ite Iff.rfl (fun _ _ => b3 k1 (by omega) hkc hqc') (fun z2 _ => ?_)
    have hpb' : p < b := by
      by_cases e : b ≤ p
      · exact absurd ((n_le (by omega) (by omega)).mpr e) z2
      · omega
    refine Pm_chk (fun _ _ => ?_)
    refine Pm_chk (fun _ _ => ?_)
    obtain ⟨a1, a2, u1, u2, u3, u4, u5, _, _⟩ := cell p (by omega)
    obtain ⟨c1, c2, v1, v2, v3, v4, v5, _, _⟩ := cell q (by omega)
    rw [u1, u3, v1, v3]
    rw [← t1 28 (by decide), ← t2 28 (by decide)] at u5 v5
    refine Pm_ob (k_compare hT1 hT2 u2 v2 u4 v4 u5 v5 rfl rfl rfl rfl) (fun r1 r2 hr => ?_)
    rw [hr.1, hr.2.1, hr.2.2]
    exact Pm_ite Iff.rfl (fun _ _ => b3 k1 (by omega) hkc hqc') (fun _ _ => b2 k1 (by omega) hkc hpb')
  refine Pm_suc rfl (fun k => by rw [x_merge]) (fun k => by rw [x_merge]) (fun m1 _ => ?_)
  refine lp m1 a b a _ _ _ _ (Nat.le_refl _) hab (Nat.le_refl _) hbc rfl ?_ d1 d3 d4 d2 d3 d2 (fun _ => rfl) (fun _ => rfl) (fun _ _ => rfl) (fun _ _ => rfl) (fun i h1 h2 => by omega)
  exact LX_u (LX_u (LX_u hL (Or.inr (hL 2 (by decide)))) (Or.inr (by show L1 3 = L2 3; exact hL 3 (by decide)))) (Or.inr (by show L1 2 = L2 2; exact hL 2 (by decide)))
end KMG
