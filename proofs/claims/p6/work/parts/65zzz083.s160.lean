/-! Two runs side by side (reference): products (made by mul2.py). -/
section KMU
variable {g1 g2 : Nat → Prop} {l1 l2 : List Nat} {B1 h1 B2 h2 n : Nat} {σ1 σ2 : MS}
/-- rows are multiplied: p rows of 42, q of 43 -/
theorem k_multiply2 {p q : Nat} (hp : p ≤ 128) (hq : q ≤ 128) {Q : Int32 × MS → Int32 × MS → Prop} {τ1 τ2 : MS} (n1 : NF σ1 τ1) (n2 : NF σ2 τ2) (p1 : τ1.1 84 = nI p) (p2 : τ2.1 84 = nI p) (q1 : τ1.1 85 = nI q) (q2 : τ2.1 85 = nI q) (c1 : τ1.1 86 = nI (p + q)) (c2 : τ2.1 86 = nI (p + q)) (hA : AgN (τ1.2.2 42) (τ2.2.2 42) p) (hB : AgN (τ1.2.2 43) (τ2.2.2 43) q) {L1 L2 : Nat → Int32} {J1 J2 : Nat → Int64} 
    (hQ : ∀ (m : Nat) (N1 N2 : Nat → Int32) (K1 K2 : Nat → Int64) (υ1 υ2 : MS), NF σ1 υ1 → NF σ2 υ2 → υ1.1 86 = nI (p + q) → υ2.1 86 = nI (p + q) → AgN (υ1.2.2 44) (υ2.2.2 44) (p + q) → (∀ j, j ≠ 44 → υ1.2.2 j = τ1.2.2 j) → (∀ j, j ≠ 44 → υ2.2.2 j = τ2.2.2 j) → (∀ j, υ1.1 j = τ1.1 j) → (∀ j, υ2.1 j = τ2.1 j) → N1 1 = L1 1 → N2 1 = L2 1 → (N1 2 = L1 2 ∧ N2 2 = L2 2) → Pm m (fun k => x_multiply k 10 N1 K1 υ1) (fun k => x_multiply k 10 N2 K2 υ2) Q) : Pm n (fun k => x_multiply k 1 L1 J1 τ1) (fun k => x_multiply k 1 L2 J2 τ2) Q := by
  -- the state within
  have b5 : ∀ (m i : Nat) (N1 N2 : Nat → Int32) (K1 K2 : Nat → Int64) (υ1 υ2 : MS), i ≤ p → N1 3 = nI i → N2 3 = nI i → N1 1 = L1 1 → N2 1 = L2 1 → (N1 2 = L1 2 ∧ N2 2 = L2 2) → NF σ1 υ1 → NF σ2 υ2 → AgN (υ1.2.2 44) (υ2.2.2 44) (p + q) → (∀ j, j ≠ 44 → υ1.2.2 j = τ1.2.2 j) → (∀ j, j ≠ 44 → υ2.2.2 j = τ2.2.2 j) → (∀ j, υ1.1 j = τ1.1 j) → (∀ j, υ2.1 j = τ2.1 j) → Pm m (fun k => x_multiply k 5 N1 K1 υ1) (fun k => x_multiply k 5 N2 K2 υ2) Q := by
    intro m
    induction m using Nat.strongRecOn with
    | ind m ih =>
    intro i N1 N2 K1 K2 υ1 υ2 hi i1 i2 x1 x2 xk m1 m2 hC a1 a2 s1 s2
    have b6 : i < p → ∀ (m' j : Nat) (M1 M2 : Nat → Int32) (U1 U2 : Nat → Int64) (ω1 ω2 : MS), m' < m → j ≤ q → M1 3 = nI i → M2 3 = nI i → M1 6 = nI j → M2 6 = nI j → M1 1 = L1 1 → M2 1 = L2 1 → (M1 2 = L1 2 ∧ M2 2 = L2 2) → U1 4 = U2 4 → NF σ1 ω1 → NF σ2 ω2 → AgN (ω1.2.2 44) (ω2.2.2 44) (p + q) → (∀ j, j ≠ 44 → ω1.2.2 j = τ1.2.2 j) → (∀ j, j ≠ 44 → ω2.2.2 j = τ2.2.2 j) → (∀ j, ω1.1 j = τ1.1 j) → (∀ j, ω2.1 j = τ2.1 j) → Pm m' (fun k => x_multiply k 6 M1 U1 ω1) (fun k => x_multiply k 6 M2 U2 ω2) Q := by
      intro hip m'
      induction m' using Nat.strongRecOn with
      | ind m' ihj =>
      intro j M1 M2 U1 U2 ω1 ω2 hm' hj i1 i2 j1 j2 x1 x2 xk hU m1 m2 hC a1 a2 s1 s2
      refine Pm_suc rfl (fun k => by rw [x_multiply]) (fun k => by rw [x_multiply]) (fun k1 hk1 => ?_)
      rw [s1 85, s2 85, q1, q2, i1, i2, j1, j2, n_add (p := i) (q := j) (by omega), n_cl (p := i + j) (by omega), n_cl (p := i) (by omega), n_cl (p := j) (by omega)]
      refine Pm_ite Iff.rfl (fun _ _ => ?_) (fun y _ => ?_)
      · refine Pm_suc rfl (fun k => by rw [x_multiply]) (fun k => by rw [x_multiply]) (fun k2 hk2 => ?_)
        rw [s1 85, s2 85, q1, q2, i1, i2, n_add (p := i) (q := q) (by omega), n_cl (p := i + q) (by omega)]
        refine Pm_chk (fun _ _ => ?_)
        show Pm k2 (fun k => x_multiply k 9 M1 U1 (mAr ω1 44 (i + q) (U1 4).toInt32)) (fun k => x_multiply k 9 M2 U2 (mAr ω2 44 (i + q) (U2 4).toInt32)) _
        refine Pm_suc rfl (fun k => by rw [x_multiply]) (fun k => by rw [x_multiply]) (fun k3 hk3 => ?_)
        refine ih k3 (by omega) (i + 1) _ _ _ _ _ _ (by omega) (by show M1 3 + 1 = _; rw [i1, n_add1]) (by show M2 3 + 1 = _; rw [i2, n_add1]) x1 x2 xk (NF_tr m1 (NF_ar (by omega))) (NF_tr m2 (NF_ar (by omega))) ?_ (fun j hj => (mAr_o hj).trans (a1 j hj)) (fun j hj => (mAr_o hj).trans (a2 j hj)) s1 s2
        rw [mAr_s, mAr_s]; exact AgN_st hC (by rw [hU])
      have hjq : j < q := by
        by_cases e : q ≤ j
        · exact absurd ((n_le (by omega) (by omega)).mpr e) y
        · omega
      refine Pm_chk (fun _ _ => ?_)
      refine Pm_chk (fun _ _ => ?_)
      refine Pm_chk (fun _ _ => ?_)
      refine Pm_chk (fun _ _ => ?_)
      have ev : U1 4 + ((ω1.2.2 44 (i + j)).toInt64 + (ω1.2.2 42 i).toInt64 * (ω1.2.2 43 j).toInt64) = U2 4 + ((ω2.2.2 44 (i + j)).toInt64 + (ω2.2.2 42 i).toInt64 * (ω2.2.2 43 j).toInt64) := by
        rw [hU, hC (i + j) (by omega), a1 42 (by decide), a2 42 (by decide), a1 43 (by decide), a2 43 (by decide), hA i hip, hB j hjq]
      generalize U1 4 + ((ω1.2.2 44 (i + j)).toInt64 + (ω1.2.2 42 i).toInt64 * (ω1.2.2 43 j).toInt64) = v1 at ev
      generalize U2 4 + ((ω2.2.2 44 (i + j)).toInt64 + (ω2.2.2 42 i).toInt64 * (ω2.2.2 43 j).toInt64) = v2 at ev
      subst ev
      show Pm k1 (fun k => x_multiply k 7 M1 (updW U1 4 v1) (mAr ω1 44 (i + j) (v1 &&& 65535).toInt32)) (fun k => x_multiply k 7 M2 (updW U2 4 v1) (mAr ω2 44 (i + j) (v1 &&& 65535).toInt32)) _
      refine Pm_suc rfl (fun k => by rw [x_multiply]) (fun k => by rw [x_multiply]) (fun k2 hk2 => ?_)
      refine ihj k2 (by omega) (j + 1) _ _ _ _ _ _ (by omega) (by omega) i1 i2 (by show M1 6 + 1 = _; rw [j1, n_add1]) (by show M2 6 + 1 = _; rw [j2, n_add1]) x1 x2 xk rfl (NF_tr m1 (NF_ar (by omega))) (NF_tr m2 (NF_ar (by omega))) ?_ (fun j hj => (mAr_o hj).trans (a1 j hj)) (fun j hj => (mAr_o hj).trans (a2 j hj)) s1 s2
      rw [mAr_s, mAr_s]; exact AgN_st hC rfl
    refine Pm_suc rfl (fun k => by rw [x_multiply]) (fun k => by rw [x_multiply]) (fun k1 hk1 => ?_)
    rw [s1 84, s2 84, p1, p2, i1, i2]
    refine Pm_ite Iff.rfl (fun _ _ => hQ k1 _ _ _ _ _ _ m1 m2 ((s1 86).trans c1) ((s2 86).trans c2) hC a1 a2 s1 s2 x1 x2 xk) (fun y _ => ?_)
    have hip : i < p := by
      by_cases e : p ≤ i
      · exact absurd ((n_le (by omega) (by omega)).mpr e) y
      · omega
    exact b6 hip k1 0 _ _ _ _ _ _ (by omega) (Nat.zero_le _) i1 i2 rfl rfl x1 x2 xk rfl m1 m2 hC a1 a2 s1 s2
  -- zeroes first
  have b2 : ∀ (m i : Nat) (N1 N2 : Nat → Int32) (K1 K2 : Nat → Int64) (υ1 υ2 : MS), i ≤ p + q → N1 3 = nI i → N2 3 = nI i → N1 1 = L1 1 → N2 1 = L2 1 → (N1 2 = L1 2 ∧ N2 2 = L2 2) → NF σ1 υ1 → NF σ2 υ2 → AgN (υ1.2.2 44) (υ2.2.2 44) i → (∀ j, j ≠ 44 → υ1.2.2 j = τ1.2.2 j) → (∀ j, j ≠ 44 → υ2.2.2 j = τ2.2.2 j) → (∀ j, υ1.1 j = τ1.1 j) → (∀ j, υ2.1 j = τ2.1 j) → Pm m (fun k => x_multiply k 2 N1 K1 υ1) (fun k => x_multiply k 2 N2 K2 υ2) Q := by
    intro m
    induction m using Nat.strongRecOn with
    | ind m ih =>
    intro i N1 N2 K1 K2 υ1 υ2 hi i1 i2 x1 x2 xk m1 m2 hC a1 a2 s1 s2
    refine Pm_suc rfl (fun k => by rw [x_multiply]) (fun k => by rw [x_multiply]) (fun k1 hk1 => ?_)
    rw [s1 86, s2 86, c1, c2, i1, i2, n_cl (p := i) (by omega)]
    refine Pm_ite Iff.rfl (fun y _ => ?_) (fun y _ => ?_)
    · have y := (n_le (by omega) (by omega)).mp y
      have e : i = p + q := by omega
      rw [e] at hC
      refine Pm_suc rfl (fun k => by rw [x_multiply]) (fun k => by rw [x_multiply]) (fun k2 hk2 => ?_)
      exact b5 k2 0 _ _ _ _ _ _ (Nat.zero_le _) rfl rfl x1 x2 xk m1 m2 hC a1 a2 s1 s2
    have hic : i < p + q := by
      by_cases e : p + q ≤ i
      · exact absurd ((n_le (by omega) (by omega)).mpr e) y
      · omega
    refine Pm_chk (fun _ _ => ?_)
    show Pm k1 (fun k => x_multiply k 3 N1 K1 (mAr υ1 44 i 0)) (fun k => x_multiply k 3 N2 K2 (mAr υ2 44 i 0)) _
    refine Pm_suc rfl (fun k => by rw [x_multiply]) (fun k => by rw [x_multiply]) (fun k2 hk2 => ?_)
    refine ih k2 (by omega) (i + 1) _ _ _ _ _ _ (by omega) (by show N1 3 + 1 = _; rw [i1, n_add1]) (by show N2 3 + 1 = _; rw [i2, n_add1]) x1 x2 xk (NF_tr m1 (NF_ar (by omega))) (NF_tr m2 (NF_ar (by omega))) ?_ (fun j hj => (mAr_o hj).trans (a1 j hj)) (fun j hj => (mAr_o hj).trans (a2 j hj)) s1 s2
    rw [mAr_s, mAr_s]; exact AgN_up hC rfl
  refine Pm_suc rfl (fun k => by rw [x_multiply]) (fun k => by rw [x_multiply]) (fun k1 _ => ?_)
  exact b2 k1 0 _ _ _ _ _ _ (Nat.zero_le _) rfl rfl rfl rfl ⟨rfl, rfl⟩ n1 n2 (fun i hi => absurd hi (Nat.not_lt_zero i)) (fun _ _ => rfl) (fun _ _ => rfl) (fun _ => rfl) (fun _ => rfl)
/-- rows are multiplied: p rows of 47, q of 42 -/
theorem k_rowsTimes2 {p q : Nat} (hp : p ≤ 128) (hq : q ≤ 128) {Q : Int32 × MS → Int32 × MS → Prop} {τ1 τ2 : MS} {L1 L2 : Nat → Int32} (n1 : NF σ1 τ1) (n2 : NF σ2 τ2) (p1 : L1 1 = nI p) (p2 : L2 1 = nI p) (q1 : τ1.1 84 = nI q) (q2 : τ2.1 84 = nI q) (c1 : τ1.1 86 = nI (p + q)) (c2 : τ2.1 86 = nI (p + q)) (hA : AgN (τ1.2.2 47) (τ2.2.2 47) p) (hB : AgN (τ1.2.2 42) (τ2.2.2 42) q) {J1 J2 : Nat → Int64} 
    (hQ : ∀ (m : Nat) (N1 N2 : Nat → Int32) (K1 K2 : Nat → Int64) (υ1 υ2 : MS), NF σ1 υ1 → NF σ2 υ2 → υ1.1 86 = nI (p + q) → υ2.1 86 = nI (p + q) → AgN (υ1.2.2 44) (υ2.2.2 44) (p + q) → (∀ j, j ≠ 44 → υ1.2.2 j = τ1.2.2 j) → (∀ j, j ≠ 44 → υ2.2.2 j = τ2.2.2 j) → (∀ j, υ1.1 j = τ1.1 j) → (∀ j, υ2.1 j = τ2.1 j) → N1 1 = L1 1 → N2 1 = L2 1 → True → Pm m (fun k => x_rowsTimes k 10 N1 K1 υ1) (fun k => x_rowsTimes k 10 N2 K2 υ2) Q) : Pm n (fun k => x_rowsTimes k 1 L1 J1 τ1) (fun k => x_rowsTimes k 1 L2 J2 τ2) Q := by
  -- the state within
  have b5 : ∀ (m i : Nat) (N1 N2 : Nat → Int32) (K1 K2 : Nat → Int64) (υ1 υ2 : MS), i ≤ p → N1 2 = nI i → N2 2 = nI i → N1 1 = L1 1 → N2 1 = L2 1 → True → NF σ1 υ1 → NF σ2 υ2 → AgN (υ1.2.2 44) (υ2.2.2 44) (p + q) → (∀ j, j ≠ 44 → υ1.2.2 j = τ1.2.2 j) → (∀ j, j ≠ 44 → υ2.2.2 j = τ2.2.2 j) → (∀ j, υ1.1 j = τ1.1 j) → (∀ j, υ2.1 j = τ2.1 j) → Pm m (fun k => x_rowsTimes k 5 N1 K1 υ1) (fun k => x_rowsTimes k 5 N2 K2 υ2) Q := by
    intro m
    induction m using Nat.strongRecOn with
    | ind m ih =>
    intro i N1 N2 K1 K2 υ1 υ2 hi i1 i2 x1 x2 xk m1 m2 hC a1 a2 s1 s2
    have b6 : i < p → ∀ (m' j : Nat) (M1 M2 : Nat → Int32) (U1 U2 : Nat → Int64) (ω1 ω2 : MS), m' < m → j ≤ q → M1 2 = nI i → M2 2 = nI i → M1 5 = nI j → M2 5 = nI j → M1 1 = L1 1 → M2 1 = L2 1 → True → U1 3 = U2 3 → NF σ1 ω1 → NF σ2 ω2 → AgN (ω1.2.2 44) (ω2.2.2 44) (p + q) → (∀ j, j ≠ 44 → ω1.2.2 j = τ1.2.2 j) → (∀ j, j ≠ 44 → ω2.2.2 j = τ2.2.2 j) → (∀ j, ω1.1 j = τ1.1 j) → (∀ j, ω2.1 j = τ2.1 j) → Pm m' (fun k => x_rowsTimes k 6 M1 U1 ω1) (fun k => x_rowsTimes k 6 M2 U2 ω2) Q := by
      intro hip m'
      induction m' using Nat.strongRecOn with
      | ind m' ihj =>
      intro j M1 M2 U1 U2 ω1 ω2 hm' hj i1 i2 j1 j2 x1 x2 xk hU m1 m2 hC a1 a2 s1 s2
      refine Pm_suc rfl (fun k => by rw [x_rowsTimes]) (fun k => by rw [x_rowsTimes]) (fun k1 hk1 => ?_)
      rw [s1 84, s2 84, q1, q2, i1, i2, j1, j2, n_add (p := i) (q := j) (by omega), n_cl (p := i + j) (by omega), n_cl (p := i) (by omega), n_cl (p := j) (by omega)]
      refine Pm_ite Iff.rfl (fun _ _ => ?_) (fun y _ => ?_)
      · refine Pm_suc rfl (fun k => by rw [x_rowsTimes]) (fun k => by rw [x_rowsTimes]) (fun k2 hk2 => ?_)
        rw [s1 84, s2 84, q1, q2, i1, i2, n_add (p := i) (q := q) (by omega), n_cl (p := i + q) (by omega)]
        refine Pm_chk (fun _ _ => ?_)
        show Pm k2 (fun k => x_rowsTimes k 9 M1 U1 (mAr ω1 44 (i + q) (U1 3).toInt32)) (fun k => x_rowsTimes k 9 M2 U2 (mAr ω2 44 (i + q) (U2 3).toInt32)) _
        refine Pm_suc rfl (fun k => by rw [x_rowsTimes]) (fun k => by rw [x_rowsTimes]) (fun k3 hk3 => ?_)
        refine ih k3 (by omega) (i + 1) _ _ _ _ _ _ (by omega) (by show M1 2 + 1 = _; rw [i1, n_add1]) (by show M2 2 + 1 = _; rw [i2, n_add1]) x1 x2 xk (NF_tr m1 (NF_ar (by omega))) (NF_tr m2 (NF_ar (by omega))) ?_ (fun j hj => (mAr_o hj).trans (a1 j hj)) (fun j hj => (mAr_o hj).trans (a2 j hj)) s1 s2
        rw [mAr_s, mAr_s]; exact AgN_st hC (by rw [hU])
      have hjq : j < q := by
        by_cases e : q ≤ j
        · exact absurd ((n_le (by omega) (by omega)).mpr e) y
        · omega
      refine Pm_chk (fun _ _ => ?_)
      refine Pm_chk (fun _ _ => ?_)
      refine Pm_chk (fun _ _ => ?_)
      refine Pm_chk (fun _ _ => ?_)
      have ev : U1 3 + ((ω1.2.2 44 (i + j)).toInt64 + (ω1.2.2 47 i).toInt64 * (ω1.2.2 42 j).toInt64) = U2 3 + ((ω2.2.2 44 (i + j)).toInt64 + (ω2.2.2 47 i).toInt64 * (ω2.2.2 42 j).toInt64) := by
        rw [hU, hC (i + j) (by omega), a1 47 (by decide), a2 47 (by decide), a1 42 (by decide), a2 42 (by decide), hA i hip, hB j hjq]
      generalize U1 3 + ((ω1.2.2 44 (i + j)).toInt64 + (ω1.2.2 47 i).toInt64 * (ω1.2.2 42 j).toInt64) = v1 at ev
      generalize U2 3 + ((ω2.2.2 44 (i + j)).toInt64 + (ω2.2.2 47 i).toInt64 * (ω2.2.2 42 j).toInt64) = v2 at ev
      subst ev
      show Pm k1 (fun k => x_rowsTimes k 7 M1 (updW U1 3 v1) (mAr ω1 44 (i + j) (v1 &&& 65535).toInt32)) (fun k => x_rowsTimes k 7 M2 (updW U2 3 v1) (mAr ω2 44 (i + j) (v1 &&& 65535).toInt32)) _
      refine Pm_suc rfl (fun k => by rw [x_rowsTimes]) (fun k => by rw [x_rowsTimes]) (fun k2 hk2 => ?_)
      refine ihj k2 (by omega) (j + 1) _ _ _ _ _ _ (by omega) (by omega) i1 i2 (by show M1 5 + 1 = _; rw [j1, n_add1]) (by show M2 5 + 1 = _; rw [j2, n_add1]) x1 x2 xk rfl (NF_tr m1 (NF_ar (by omega))) (NF_tr m2 (NF_ar (by omega))) ?_ (fun j hj => (mAr_o hj).trans (a1 j hj)) (fun j hj => (mAr_o hj).trans (a2 j hj)) s1 s2
      rw [mAr_s, mAr_s]; exact AgN_st hC rfl
    refine Pm_suc rfl (fun k => by rw [x_rowsTimes]) (fun k => by rw [x_rowsTimes]) (fun k1 hk1 => ?_)
    rw [x1, x2, p1, p2, i1, i2]
    refine Pm_ite Iff.rfl (fun _ _ => hQ k1 _ _ _ _ _ _ m1 m2 ((s1 86).trans c1) ((s2 86).trans c2) hC a1 a2 s1 s2 x1 x2 xk) (fun y _ => ?_)
    have hip : i < p := by
      by_cases e : p ≤ i
      · exact absurd ((n_le (by omega) (by omega)).mpr e) y
      · omega
    exact b6 hip k1 0 _ _ _ _ _ _ (by omega) (Nat.zero_le _) i1 i2 rfl rfl x1 x2 xk rfl m1 m2 hC a1 a2 s1 s2
  -- zeroes first
  have b2 : ∀ (m i : Nat) (N1 N2 : Nat → Int32) (K1 K2 : Nat → Int64) (υ1 υ2 : MS), i ≤ p + q → N1 2 = nI i → N2 2 = nI i → N1 1 = L1 1 → N2 1 = L2 1 → True → NF σ1 υ1 → NF σ2 υ2 → AgN (υ1.2.2 44) (υ2.2.2 44) i → (∀ j, j ≠ 44 → υ1.2.2 j = τ1.2.2 j) → (∀ j, j ≠ 44 → υ2.2.2 j = τ2.2.2 j) → (∀ j, υ1.1 j = τ1.1 j) → (∀ j, υ2.1 j = τ2.1 j) → Pm m (fun k => x_rowsTimes k 2 N1 K1 υ1) (fun k => x_rowsTimes k 2 N2 K2 υ2) Q := by
    intro m
    induction m using Nat.strongRecOn with
    | ind m ih =>
    intro i N1 N2 K1 K2 υ1 υ2 hi i1 i2 x1 x2 xk m1 m2 hC a1 a2 s1 s2
    refine Pm_suc rfl (fun k => by rw [x_rowsTimes]) (fun k => by rw [x_rowsTimes]) (fun k1 hk1 => ?_)
    rw [s1 86, s2 86, c1, c2, i1, i2, n_cl (p := i) (by omega)]
    refine Pm_ite Iff.rfl (fun y _ => ?_) (fun y _ => ?_)
    · have y := (n_le (by omega) (by omega)).mp y
      have e : i = p + q := by omega
      rw [e] at hC
      refine Pm_suc rfl (fun k => by rw [x_rowsTimes]) (fun k => by rw [x_rowsTimes]) (fun k2 hk2 => ?_)
      exact b5 k2 0 _ _ _ _ _ _ (Nat.zero_le _) rfl rfl x1 x2 xk m1 m2 hC a1 a2 s1 s2
    have hic : i < p + q := by
      by_cases e : p + q ≤ i
      · exact absurd ((n_le (by omega) (by omega)).mpr e) y
      · omega
    refine Pm_chk (fun _ _ => ?_)
    show Pm k1 (fun k => x_rowsTimes k 3 N1 K1 (mAr υ1 44 i 0)) (fun k => x_rowsTimes k 3 N2 K2 (mAr υ2 44 i 0)) _
    refine Pm_suc rfl (fun k => by rw [x_rowsTimes]) (fun k => by rw [x_rowsTimes]) (fun k2 hk2 => ?_)
    refine ih k2 (by omega) (i + 1) _ _ _ _ _ _ (by omega) (by show N1 2 + 1 = _; rw [i1, n_add1]) (by show N2 2 + 1 = _; rw [i2, n_add1]) x1 x2 xk (NF_tr m1 (NF_ar (by omega))) (NF_tr m2 (NF_ar (by omega))) ?_ (fun j hj => (mAr_o hj).trans (a1 j hj)) (fun j hj => (mAr_o hj).trans (a2 j hj)) s1 s2
    rw [mAr_s, mAr_s]; exact AgN_up hC rfl
  refine Pm_suc rfl (fun k => by rw [x_rowsTimes]) (fun k => by rw [x_rowsTimes]) (fun k1 _ => ?_)
  exact b2 k1 0 _ _ _ _ _ _ (Nat.zero_le _) rfl rfl rfl rfl trivial n1 n2 (fun i hi => absurd hi (Nat.not_lt_zero i)) (fun _ _ => rfl) (fun _ _ => rfl) (fun _ => rfl) (fun _ => rfl)
theorem k_multiply {a1 a2 b1 b2 p q : Nat} (hS1 : HS g1 l1 B1 h1 σ1) (hS2 : HS g2 l2 B2 h2 σ2) (e1 : σ1.1 56 = 0) (e2 : σ2.1 56 = 0) (hr1 : h1 + 70 ≤ B1 + 870000) (hr2 : h2 + 70 ≤ B2 + 870000) (hA : WhE σ1 σ2 a1 a2 p) (hB : WhE σ1 σ2 b1 b2 q) {L1 L2 : Nat → Int32} {J1 J2 : Nat → Int64} (d1 : L1 1 = nI a1) (d2 : L1 2 = nI b1) (f1 : L2 1 = nI a2) (f2 : L2 2 = nI b2) : Pm n (fun k => x_multiply k 0 L1 J1 σ1) (fun k => x_multiply k 0 L2 J2 σ2) (KQ h1 h2 70) := by
  have hp := hA.1.2.2.1
  have hq := hB.1.2.2.1
  refine Pm_suc rfl (fun k => by rw [x_multiply]) (fun k => by rw [x_multiply]) (fun m1 _ => ?_)
  refine Pm_ob (k_loadA hS1 hS2 hA (by exact d1) (by exact f1)) (fun r1 r2 hr => ?_)
  obtain ⟨q1, q2, q3, q4, q5⟩ := hr
  have hT1 := NF_HS q1 hS1
  have hT2 := NF_HS q2 hS2
  refine Pm_ob (k_loadB hT1 hT2 (WhE_NF q1 q2 hB) (by exact d2) (by exact f2)) (fun s1 s2 hs => ?_)
  obtain ⟨w1, w2, w3, w4, w5, w6, w7, w8, w9⟩ := hs
  have n1 := NF_tr q1 w1
  have n2 := NF_tr q2 w2
  have hc1 : s1.2.1 84 + s1.2.1 85 = nI (p - 1 + (q - 1)) := by rw [w8, q3, w3, n_add (by omega)]
  have hc2 : s2.2.1 84 + s2.2.1 85 = nI (p - 1 + (q - 1)) := by rw [w9, q4, w4, n_add (by omega)]
  rw [hc1, hc2]
  show Pm m1 (fun k => x_multiply k 1 L1 J1 (mSc s1.2 86 (nI (p - 1 + (q - 1))))) (fun k => x_multiply k 1 L2 J2 (mSc s2.2 86 (nI (p - 1 + (q - 1))))) _
  refine k_multiply2 (p := p - 1) (q := q - 1) (τ1 := mSc s1.2 86 (nI (p - 1 + (q - 1)))) (τ2 := mSc s2.2 86 (nI (p - 1 + (q - 1)))) (by omega) (by omega) (NF_tr n1 (NF_sc (by omega))) (NF_tr n2 (NF_sc (by omega))) (w8.trans q3) (w9.trans q4) w3 w4 rfl rfl ?_ w5 ?_
  · show AgN (s1.2.2.2 42) (s2.2.2.2 42) _
    rw [w6, w7]; exact q5
  · intro m N1 N2 K1 K2 υ1 υ2 y1 y2 y3 y4 y5 _ _ _ _ y8 y9 y10
    have hU1 := NF_HS y1 hS1
    have hU2 := NF_HS y2 hS2
    refine Pm_suc rfl (fun k => by rw [x_multiply]) (fun k => by rw [x_multiply]) (fun m2 _ => ?_)
    refine Pm_ob (k_signOf hU1 hU2 (WhE_NF y1 y2 hA) (by exact y8.trans d1) (by exact y9.trans f1)) (fun x1 x2 hx => ?_)
    rw [hx.1, hx.2]
    refine Pm_ob (k_signOf hU1 hU2 (WhE_NF y1 y2 hB) (by exact y10.1.trans d2) (by exact y10.2.trans f2)) (fun z1 z2 hz => ?_)
    rw [hz.1, hz.2]
    exact Pm_ob (k_wholeOf hU1 hU2 ((y1.1 56 (by decide)).trans e1) ((y2.1 56 (by decide)).trans e2) hr1 hr2 (by omega) y3 y4 y5 rfl) (fun r1 r2 hr => Pm_some hr)
/-- products of rows: their limbs, without zeroes above -/
theorem k_rowsTimes {p q : Nat} (hp : p ≤ 128) (hq : q ≤ 128) (q1 : σ1.1 84 = nI q) (q2 : σ2.1 84 = nI q) (hA : AgN (σ1.2.2 47) (σ2.2.2 47) p) (hB : AgN (σ1.2.2 42) (σ2.2.2 42) q) {L1 L2 : Nat → Int32} {J1 J2 : Nat → Int64} (p1 : L1 1 = nI p) (p2 : L2 1 = nI p) : Pm n (fun k => x_rowsTimes k 0 L1 J1 σ1) (fun k => x_rowsTimes k 0 L2 J2 σ2) (fun r1 r2 => NF σ1 r1.2 ∧ NF σ2 r2.2 ∧ (∃ c, c ≤ p + q ∧ r1.2.1 86 = nI c ∧ r2.2.1 86 = nI c ∧ AgN (r1.2.2.2 44) (r2.2.2.2 44) c) ∧ r1.2.2.2 42 = σ1.2.2 42 ∧ r2.2.2.2 42 = σ2.2.2 42 ∧ r1.2.1 84 = nI q ∧ r2.2.1 84 = nI q) := by
  have b10 : ∀ (c m : Nat) (N1 N2 : Nat → Int32) (K1 K2 : Nat → Int64) (υ1 υ2 : MS), c ≤ p + q → NF σ1 υ1 → NF σ2 υ2 → υ1.1 86 = nI c → υ2.1 86 = nI c → AgN (υ1.2.2 44) (υ2.2.2 44) c → υ1.2.2 42 = σ1.2.2 42 → υ2.2.2 42 = σ2.2.2 42 → υ1.1 84 = nI q → υ2.1 84 = nI q → Pm m (fun k => x_rowsTimes k 10 N1 K1 υ1) (fun k => x_rowsTimes k 10 N2 K2 υ2) (fun r1 r2 => NF σ1 r1.2 ∧ NF σ2 r2.2 ∧ (∃ c, c ≤ p + q ∧ r1.2.1 86 = nI c ∧ r2.2.1 86 = nI c ∧ AgN (r1.2.2.2 44) (r2.2.2.2 44) c) ∧ r1.2.2.2 42 = σ1.2.2 42 ∧ r2.2.2.2 42 = σ2.2.2 42 ∧ r1.2.1 84 = nI q ∧ r2.2.1 84 = nI q) := by
    intro c
    induction c with
    | zero =>
      intro m N1 N2 K1 K2 υ1 υ2 hc n1 n2 c1 c2 hC x1 x2 x3 x4
      refine Pm_suc rfl (fun k => by rw [x_rowsTimes]) (fun k => by rw [x_rowsTimes]) (fun m1 _ => ?_)
      rw [c1, c2]
      refine Pm_ite Iff.rfl (fun _ _ => ?_) (fun w _ => absurd (by decide) w)
      refine Pm_suc rfl (fun k => by rw [x_rowsTimes]) (fun k => by rw [x_rowsTimes]) (fun m2 _ => ?_)
      exact Pm_some ⟨n1, n2, ⟨0, by omega, c1, c2, hC⟩, x1, x2, x3, x4⟩
    | succ c ih =>
      intro m N1 N2 K1 K2 υ1 υ2 hc n1 n2 c1 c2 hC x1 x2 x3 x4
      have fin : ∀ m', Pm m' (fun k => x_rowsTimes k 11 N1 K1 υ1) (fun k => x_rowsTimes k 11 N2 K2 υ2) (fun r1 r2 => NF σ1 r1.2 ∧ NF σ2 r2.2 ∧ (∃ c, c ≤ p + q ∧ r1.2.1 86 = nI c ∧ r2.2.1 86 = nI c ∧ AgN (r1.2.2.2 44) (r2.2.2.2 44) c) ∧ r1.2.2.2 42 = σ1.2.2 42 ∧ r2.2.2.2 42 = σ2.2.2 42 ∧ r1.2.1 84 = nI q ∧ r2.2.1 84 = nI q) := fun m' => by
        refine Pm_suc rfl (fun k => by rw [x_rowsTimes]) (fun k => by rw [x_rowsTimes]) (fun m2 _ => ?_)
        exact Pm_some ⟨n1, n2, ⟨c + 1, hc, c1, c2, hC⟩, x1, x2, x3, x4⟩
      refine Pm_suc rfl (fun k => by rw [x_rowsTimes]) (fun k => by rw [x_rowsTimes]) (fun m1 _ => ?_)
      rw [c1, c2, show nI (c + 1) - 1 = nI c from n_sub1 (by omega), n_cl (p := c) (by omega)]
      refine Pm_ite Iff.rfl (fun _ _ => fin m1) (fun _ _ => ?_)
      refine Pm_chk (fun _ _ => ?_)
      refine Pm_ite (by rw [hC c (by omega)]) (fun _ _ => ?_) (fun _ _ => fin m1)
      show Pm m1 (fun k => x_rowsTimes k 10 N1 K1 (mSc υ1 86 (nI c))) (fun k => x_rowsTimes k 10 N2 K2 (mSc υ2 86 (nI c))) _
      exact ih m1 _ _ _ _ _ _ (by omega) (NF_tr n1 (NF_sc (by omega))) (NF_tr n2 (NF_sc (by omega))) rfl rfl (AgN_mo hC (by omega)) x1 x2 x3 x4
  refine Pm_suc rfl (fun k => by rw [x_rowsTimes]) (fun k => by rw [x_rowsTimes]) (fun m1 _ => ?_)
  rw [p1, p2, q1, q2, n_add (by omega)]
  show Pm m1 (fun k => x_rowsTimes k 1 L1 J1 (mSc σ1 86 (nI (p + q)))) (fun k => x_rowsTimes k 1 L2 J2 (mSc σ2 86 (nI (p + q)))) _
  refine k_rowsTimes2 (τ1 := mSc σ1 86 (nI (p + q))) (τ2 := mSc σ2 86 (nI (p + q))) hp hq (NF_sc (by omega)) (NF_sc (by omega)) p1 p2 q1 q2 rfl rfl hA hB ?_
  intro m N1 N2 K1 K2 υ1 υ2 y1 y2 y3 y4 y5 y6 y7 y8 y9 _ _ _
  exact b10 (p + q) m N1 N2 K1 K2 υ1 υ2 (Nat.le_refl _) y1 y2 y3 y4 y5 (y6 42 (by decide)) (y7 42 (by decide)) ((y8 84).trans q1) ((y9 84).trans q2)
end KMU
