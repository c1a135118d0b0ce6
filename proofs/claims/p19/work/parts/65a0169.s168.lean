section JnS168
/-! Two runs side by side (reference): sets. -/
section UST6
variable {g : Nat → Prop} {l : List Nat} {B h t : Nat} {σ : MS}
/-- a set is filled and measured -/
theorem u_set1 {m f w : Nat} (hS : HS g l B h σ) (h56 : σ.1 56 = 0) (hfw : f + w ≤ 185000) (hr : h + 4 + w ≤ B + 870000) (hV : PLv g (σ.2.2 29) f w) {N : Nat → Int32} (n1 : N 1 = nI f) (n2 : N 2 = nI w) : Um m (fun k => x_setOf k 1 N σ) (RwM (σ.2.2 28) h 6 w (fun i => σ.2.2 29 (f + i))) := by
  have hb := HS_b hS
  have hB := hS.2.1
  refine Um_suc rfl (fun k => by rw [x_setOf]) (fun m1 _ => ?_)
  rw [n2]
  refine Um_ob (u_make hS (n := w) (by omega) hr rfl) (fun r hr' => ?_)
  rw [hr']
  refine Um_ite (fun _ => ?_) (fun z => absurd (by rw [mMk_s (by decide), h56]; decide) z)
  refine Um_suc rfl (fun k => by rw [x_setOf]) (fun m2 _ => ?_)
  have l5 : ∀ (m i : Nat) (M : Nat → Int32) (τ : MS), i ≤ w → M 1 = nI f → M 2 = nI w → M 3 = nI h → M 4 = nI i → τ.1 54 = σ.1 54 → τ.1 56 = 0 → τ.1 55 = nI (h + 4 + w) → τ.2.2 29 = σ.2.2 29 → τ.2.2 28 h = nI 6 → τ.2.2 28 (h + 1) = nI w → (∀ k, k < i → τ.2.2 28 (h + 4 + k) = σ.2.2 29 (f + k)) → (∀ k, B + 4 ≤ k → k < h → τ.2.2 28 k = σ.2.2 28 k) → Um m (fun k => x_setOf k 3 M τ) (RwM (σ.2.2 28) h 6 w (fun i => σ.2.2 29 (f + i))) := by
    intro m
    induction m using Nat.strongRecOn with
    | ind m ih =>
    intro i M τ hi m1 m2 m3 m4 t54 t56 t55 t29 th th1 tc hag
    refine Um_suc rfl (fun k => by rw [x_setOf]) (fun k1 hk1 => ?_)
    rw [m2, m4, m1, m3, n_add (p := f) (by omega), show nI h + 4 = nI (h + 4) from n_add (q := 4) (by omega), n_add (p := h + 4) (by omega), n_cl (p := h + 4 + i) (by omega), n_cl (p := f + i) (by omega)]
    refine Um_ite (fun y => ?_) (fun y => ?_)
    · have y := (n_le (by omega) (by omega)).mp y
      have e : i = w := by omega
      rw [e] at tc
      refine Um_suc rfl (fun k => by rw [x_setOf]) (fun k2 hk2 => ?_)
      have hSt : HS g (l ++ [h]) B (h + 4 + w) τ := HS_fin hS hr t54 t55 hag th1
      refine Um_ob (u_measured (c := fun i => σ.2.2 29 (f + i)) hSt (by omega) t56 t55 th th1 tc (fun i hi => hV i hi) (fun m hm => ?_) (by exact m3)) (fun r hr => Um_some hr)
      have a := szN_ext (H' := τ.2.2 28) hag hS.2.2.2.2 (by omega) hm
      exact ⟨a.1.symm, a.2.symm⟩
    have hiw : i < w := by
      by_cases e : w ≤ i
      · exact absurd ((n_le (by omega) (by omega)).mpr e) y
      · omega
    refine Um_chk (fun _ => ?_)
    refine Um_chk (fun _ => ?_)
    rw [t29]
    show Um k1 (fun k => x_setOf k 4 M (mAr τ 28 (h + 4 + i) (σ.2.2 29 (f + i)))) _
    refine Um_suc rfl (fun k => by rw [x_setOf]) (fun k2 hk2 => ?_)
    have u : ∀ j, j ≠ h + 4 + i → (mAr τ 28 (h + 4 + i) (σ.2.2 29 (f + i))).2.2 28 j = τ.2.2 28 j := fun j hj => by rw [mAr_s, upd_other hj]
    refine ih k2 (by omega) (i + 1) _ _ (by omega) m1 m2 m3 (by show M 4 + 1 = _; rw [m4, n_add1]) t54 t56 t55 (by rw [mAr_o (by decide)]; exact t29) ((u _ (by omega)).trans th) ((u _ (by omega)).trans th1) (fun k hk => ?_) (fun k h1 h2 => (u _ (by omega)).trans (hag k h1 h2))
    by_cases e : k = i
    · rw [e, mAr_s, upd_same]
    · exact (u _ (by omega)).trans (tc k (by omega))
  refine l5 m2 0 _ _ (Nat.zero_le _) n1 n2 rfl rfl (mMk_s (by decide)) ((mMk_s (by decide)).trans h56) ?_ (mMk_o (by decide)) ?_ ?_ (fun k hk => absurd hk (Nat.not_lt_zero k)) (fun i h1 h2 => ?_)
  · show nI (h + (4 + w)) = _
    rw [Nat.add_assoc]
  · show (mMk σ h _ w).2.2 28 h = _
    rw [mMk_28, upd_other (by omega), upd_other (by omega), upd_other (by omega), upd_same]; rfl
  · show (mMk σ h _ w).2.2 28 (h + 1) = _
    rw [mMk_28, upd_other (by omega), upd_other (by omega), upd_same]
  · show (mMk σ h _ w).2.2 28 i = _
    rw [mMk_28, upd_other (by omega), upd_other (by omega), upd_other (by omega), upd_other (by omega)]
end UST6
section KDS
variable {g1 g2 : Nat → Prop} {l1 l2 : List Nat} {B1 h1 B2 h2 n : Nat} {σ1 σ2 : MS}
/-- while rows are sorted -/
def DsI (g1 g2 : Nat → Prop) (f w : Nat) (σ1 σ2 τ1 τ2 : MS) : Prop := SF f σ1 τ1 ∧ SF f σ2 τ2 ∧ τ1.1 59 = σ1.1 59 ∧ τ2.1 59 = σ2.1 59 ∧ ∀ i, i < w → VC g1 g2 (σ1.2.2 28) (σ2.2.2 28) (τ1.2.2 29 (f + i)) (τ2.2.2 29 (f + i))
/-- what distinct leaves -/
def DsO (g1 g2 : Nat → Prop) (f w : Nat) (σ1 σ2 : MS) (r1 r2 : Int32 × MS) : Prop := ∃ v, v ≤ w ∧ SF f σ1 r1.2 ∧ SF f σ2 r2.2 ∧ r1.2.1 59 = nI (f + v) ∧ r2.2.1 59 = nI (f + v) ∧ ∀ i, i < v → VC g1 g2 (σ1.2.2 28) (σ2.2.2 28) (r1.2.2.2 29 (f + i)) (r2.2.2.2 29 (f + i))
theorem DsI_HS1 {f w : Nat} {τ1 τ2 : MS} (hS1 : HS g1 l1 B1 h1 σ1) (h : DsI g1 g2 f w σ1 σ2 τ1 τ2) : HS g1 l1 B1 h1 τ1 := SF_HS h.1 hS1
theorem DsI_P {f w : Nat} {τ1 τ2 : MS} (h : DsI g1 g2 f w σ1 σ2 τ1 τ2) : PlE g1 g2 τ1 τ2 f w := fun i hi => by
  have := h.2.2.2.2 i hi
  rw [h.1.2.1 28 (by decide), h.2.1.2.1 28 (by decide)]; exact this
/-- the pass over what is sorted -/
theorem k_ds12 {f w : Nat} (hS1 : HS g1 l1 B1 h1 σ1) (hS2 : HS g2 l2 B2 h2 σ2) (hw : w ≤ 60100) (hfw : f + w ≤ 185000) : ∀ (m v i : Nat) (N : Nat → Int32) (τ1 τ2 : MS), v ≤ i → i ≤ w → N 1 = nI f → N 2 = nI w → N 3 = nI v → N 4 = nI i → DsI g1 g2 f w σ1 σ2 τ1 τ2 → Pm m (fun k => x_distinct k 12 N τ1) (fun k => x_distinct k 12 N τ2) (DsO g1 g2 f w σ1 σ2) := by
  intro m
  induction m using Nat.strongRecOn with
  | ind m ih =>
  intro v i N τ1 τ2 hvi hi n1 n2 n3 n4 hD
  have hT1 : HS g1 l1 B1 h1 τ1 := SF_HS hD.1 hS1
  have hT2 : HS g2 l2 B2 h2 τ2 := SF_HS hD.2.1 hS2
  have b15 : ∀ (m' v' : Nat) (M : Nat → Int32) (υ1 υ2 : MS), m' < m → i < w → v' ≤ i + 1 → M 1 = nI f → M 2 = nI w → M 3 = nI v' → M 4 = nI i → DsI g1 g2 f w σ1 σ2 υ1 υ2 → Pm m' (fun k => x_distinct k 15 M υ1) (fun k => x_distinct k 15 M υ2) (DsO g1 g2 f w σ1 σ2) := by
    intro m' v' M υ1 υ2 hm' hiw hv' x1 x2 x3 x4 hD'
    refine Pm_suc rfl (fun k => by rw [x_distinct]) (fun k => by rw [x_distinct]) (fun k1 hk1 => ?_)
    exact ih k1 (by omega) v' (i + 1) _ _ _ hv' (by omega) x1 x2 x3 (by show M 4 + 1 = _; rw [x4, n_add1]) hD'
  have b13 : ∀ m', m' < m → i < w → Pm m' (fun k => x_distinct k 13 N τ1) (fun k => x_distinct k 13 N τ2) (DsO g1 g2 f w σ1 σ2) := fun m' hm' hiw => by
    refine Pm_suc rfl (fun k => by rw [x_distinct]) (fun k => by rw [x_distinct]) (fun k1 hk1 => ?_)
    rw [n1, n3, n4, n_add (p := f) (q := i) (by omega), n_add (p := f) (q := v) (by omega), n_cl (p := f + i) (by omega), n_cl (p := f + v) (by omega)]
    refine Pm_chk (fun _ _ => ?_)
    refine Pm_chk (fun _ _ => ?_)
    show Pm k1 (fun k => x_distinct k 14 N (mAr τ1 29 (f + v) (τ1.2.2 29 (f + i)))) (fun k => x_distinct k 14 N (mAr τ2 29 (f + v) (τ2.2.2 29 (f + i)))) _
    refine Pm_suc rfl (fun k => by rw [x_distinct]) (fun k => by rw [x_distinct]) (fun k2 hk2 => ?_)
    refine b15 k2 (v + 1) _ _ _ (by omega) hiw (by omega) n1 n2 (by show N 3 + 1 = _; rw [n3, n_add1]) n4 ⟨SF_tr hD.1 (SF_29 (by omega)), SF_tr hD.2.1 (SF_29 (by omega)), hD.2.2.1, hD.2.2.2.1, fun j hj => ?_⟩
    rw [mAr_s, mAr_s]
    by_cases e : j = v
    · rw [e, upd_same, upd_same]; exact hD.2.2.2.2 i hiw
    · rw [upd_other (by omega), upd_other (by omega)]; exact hD.2.2.2.2 j hj
  refine Pm_suc rfl (fun k => by rw [x_distinct]) (fun k => by rw [x_distinct]) (fun k1 hk1 => ?_)
  rw [n1, n2, n3, n4]
  refine Pm_ite Iff.rfl (fun _ _ => ?_) (fun y _ => ?_)
  · refine Pm_suc rfl (fun k => by rw [x_distinct]) (fun k => by rw [x_distinct]) (fun k2 hk2 => ?_)
    rw [n1, n3, n_add (by omega)]
    show Pm k2 (fun _ => some (0, mSc τ1 59 (nI (f + v)))) (fun _ => some (0, mSc τ2 59 (nI (f + v)))) _
    refine Pm_some ⟨v, by omega, ?_, ?_, rfl, rfl, fun j hj => hD.2.2.2.2 j (by omega)⟩
    · exact SF_tr hD.1 ⟨fun j hj => upd_other hj, fun _ _ => rfl, fun _ _ => rfl⟩
    · exact SF_tr hD.2.1 ⟨fun j hj => upd_other hj, fun _ _ => rfl, fun _ _ => rfl⟩
  have hiw : i < w := by
    by_cases e : w ≤ i
    · exact absurd ((n_le (by omega) (by omega)).mpr e) y
    · omega
  refine Pm_ite Iff.rfl (fun _ _ => b13 k1 (by omega) hiw) (fun z _ => ?_)
  have hv1 : 1 ≤ v := by
    by_cases e : v = 0
    · exact absurd (by rw [e]; rfl) z
    · omega
  obtain ⟨u, rfl⟩ : ∃ u, v = u + 1 := ⟨v - 1, by omega⟩
  rw [n_add (p := f) (q := u + 1) (by omega), show nI (f + (u + 1)) - 1 = nI (f + u) from n_sub (p := f + (u + 1)) (q := 1) (by omega) (by omega), n_add (p := f) (q := i) (by omega), n_cl (p := f + u) (by omega), n_cl (p := f + i) (by omega)]
  refine Pm_chk (fun _ _ => ?_)
  refine Pm_chk (fun _ _ => ?_)
  obtain ⟨a1, a2, u1, u2, u3, u4, u5, _, _⟩ := DsI_P hD u (by omega)
  obtain ⟨c1, c2, v1, v2, v3, v4, v5, _, _⟩ := DsI_P hD i hiw
  have u1 : τ1.2.2 29 (f + u) = nI a1 := u1
  have u3 : τ2.2.2 29 (f + u) = nI a2 := u3
  have v1 : τ1.2.2 29 (f + i) = nI c1 := v1
  have v3 : τ2.2.2 29 (f + i) = nI c2 := v3
  rw [u1, u3, v1, v3]
  refine Pm_ob (k_compare hT1 hT2 u2 v2 u4 v4 u5 v5 rfl rfl rfl rfl) (fun r1 r2 hr => ?_)
  rw [hr.1, hr.2.1, hr.2.2]
  exact Pm_ite Iff.rfl (fun _ _ => b15 k1 (u + 1) _ _ _ (by omega) hiw (by omega) n1 n2 n3 n4 hD) (fun _ _ => b13 k1 (by omega) hiw)
/-- rows of width s are merged, pass by pass -/
theorem k_distinct {f w : Nat} (hS1 : HS g1 l1 B1 h1 σ1) (hS2 : HS g2 l2 B2 h2 σ2) (t1 : σ1.1 59 = nI (f + w)) (t2 : σ2.1 59 = nI (f + w)) (hw : w ≤ 60100) (hfw : f + w ≤ 185000) (hP : PlE g1 g2 σ1 σ2 f w) {L : Nat → Int32} (d1 : L 1 = nI f) : Pm n (fun k => x_distinct k 0 L σ1) (fun k => x_distinct k 0 L σ2) (DsO g1 g2 f w σ1 σ2) := by
  have b1 : ∀ (m s : Nat) (N : Nat → Int32) (τ1 τ2 : MS), 1 ≤ s → s ≤ 130000 → N 1 = nI f → N 2 = nI w → N 3 = nI s → DsI g1 g2 f w σ1 σ2 τ1 τ2 → Pm m (fun k => x_distinct k 1 N τ1) (fun k => x_distinct k 1 N τ2) (DsO g1 g2 f w σ1 σ2) := by
    intro m
    induction m using Nat.strongRecOn with
    | ind m ih =>
    intro s N τ1 τ2 hs1 hs n1 n2 n3 hD
    refine Pm_suc rfl (fun k => by rw [x_distinct]) (fun k => by rw [x_distinct]) (fun k1 hk1 => ?_)
    rw [n2, n3]
    refine Pm_ite Iff.rfl (fun _ _ => ?_) (fun y _ => ?_)
    · refine Pm_suc rfl (fun k => by rw [x_distinct]) (fun k => by rw [x_distinct]) (fun k2 hk2 => ?_)
      exact k_ds12 hS1 hS2 hw hfw k2 0 0 _ _ _ (Nat.le_refl _) (Nat.zero_le _) n1 n2 rfl rfl hD
    have hsw : s < w := by
      by_cases e : w ≤ s
      · exact absurd ((n_le (by omega) (by omega)).mpr e) y
      · omega
    -- what was merged is put back
    have b8 : ∀ (m' i : Nat) (M : Nat → Int32) (υ1 υ2 : MS), m' < m → i ≤ w → M 1 = nI f → M 2 = nI w → M 3 = nI s → M 4 = nI i → DsI g1 g2 f w σ1 σ2 υ1 υ2 → (∀ j, j < w → VC g1 g2 (σ1.2.2 28) (σ2.2.2 28) (υ1.2.2 41 j) (υ2.2.2 41 j)) → Pm m' (fun k => x_distinct k 8 M υ1) (fun k => x_distinct k 8 M υ2) (DsO g1 g2 f w σ1 σ2) := by
      intro m'
      induction m' using Nat.strongRecOn with
      | ind m' ihj =>
      intro i M υ1 υ2 hm' hi x1 x2 x3 x4 hD' hC
      refine Pm_suc rfl (fun k => by rw [x_distinct]) (fun k => by rw [x_distinct]) (fun k2 hk2 => ?_)
      rw [x1, x2, x4, n_add (p := f) (q := i) (by omega), n_cl (p := f + i) (by omega), n_cl (p := i) (by omega)]
      refine Pm_ite Iff.rfl (fun _ _ => ?_) (fun y _ => ?_)
      · refine Pm_suc rfl (fun k => by rw [x_distinct]) (fun k => by rw [x_distinct]) (fun k3 hk3 => ?_)
        exact ih k3 (by omega) (s + s) _ _ _ (by omega) (by omega) x1 x2 (by show M 3 + M 3 = _; rw [x3, n_add (by omega)]) hD'
      have hiw : i < w := by
        by_cases e : w ≤ i
        · exact absurd ((n_le (by omega) (by omega)).mpr e) y
        · omega
      refine Pm_chk (fun _ _ => ?_)
      refine Pm_chk (fun _ _ => ?_)
      show Pm k2 (fun k => x_distinct k 9 M (mAr υ1 29 (f + i) (υ1.2.2 41 i))) (fun k => x_distinct k 9 M (mAr υ2 29 (f + i) (υ2.2.2 41 i))) _
      refine Pm_suc rfl (fun k => by rw [x_distinct]) (fun k => by rw [x_distinct]) (fun k3 hk3 => ?_)
      refine ihj k3 (by omega) (i + 1) _ _ _ (by omega) (by omega) x1 x2 x3 (by show M 4 + 1 = _; rw [x4, n_add1]) ⟨SF_tr hD'.1 (SF_29 (by omega)), SF_tr hD'.2.1 (SF_29 (by omega)), hD'.2.2.1, hD'.2.2.2.1, fun j hj => ?_⟩ (fun j hj => ?_)
      · rw [mAr_s, mAr_s]
        by_cases e : j = i
        · rw [e, upd_same, upd_same]; exact hC i hiw
        · rw [upd_other (by omega), upd_other (by omega)]; exact hD'.2.2.2.2 j hj
      · rw [mAr_o (by decide), mAr_o (by decide)]; exact hC j hj
    have b2 : ∀ (m' p : Nat) (M : Nat → Int32) (υ1 υ2 : MS), m' < m → p ≤ w + 2 * s → M 1 = nI f → M 2 = nI w → M 3 = nI s → M 4 = nI p → DsI g1 g2 f w σ1 σ2 υ1 υ2 → (∀ j, j < p → j < w → VC g1 g2 (σ1.2.2 28) (σ2.2.2 28) (υ1.2.2 41 j) (υ2.2.2 41 j)) → Pm m' (fun k => x_distinct k 2 M υ1) (fun k => x_distinct k 2 M υ2) (DsO g1 g2 f w σ1 σ2) := by
      intro m'
      induction m' using Nat.strongRecOn with
      | ind m' ihj =>
      intro p M υ1 υ2 hm' hp x1 x2 x3 x4 hD' hC
      have hU1 : HS g1 l1 B1 h1 υ1 := SF_HS hD'.1 hS1
      have hU2 : HS g2 l2 B2 h2 υ2 := SF_HS hD'.2.1 hS2
      refine Pm_suc rfl (fun k => by rw [x_distinct]) (fun k => by rw [x_distinct]) (fun k2 hk2 => ?_)
      rw [x2, x4, x3, n_add (p := p) (q := s) (by omega)]
      refine Pm_ite Iff.rfl (fun y _ => ?_) (fun y _ => ?_)
      · have y := (n_le (by omega) (by omega)).mp y
        refine Pm_suc rfl (fun k => by rw [x_distinct]) (fun k => by rw [x_distinct]) (fun k3 hk3 => ?_)
        exact b8 k3 0 _ _ _ (by omega) (Nat.zero_le _) x1 x2 x3 rfl hD' (fun j hj => hC j (by omega) hj)
      have hpw : p < w := by
        by_cases e : w ≤ p
        · exact absurd ((n_le (by omega) (by omega)).mpr e) y
        · omega
      -- the merge
      have b6 : ∀ (m2 b c : Nat) (O : Nat → Int32), m2 < m' → p ≤ b → b ≤ c → c ≤ w → (c = w ∨ c = p + 2 * s) → O 1 = nI f → O 2 = nI w → O 3 = nI s → O 4 = nI p → O 103 = nI f → O 102 = nI p → O 101 = nI b → O 100 = nI c → Pm m2 (fun k => x_distinct k 6 O υ1) (fun k => x_distinct k 6 O υ2) (DsO g1 g2 f w σ1 σ2) := by
        intro m2 b c O hm2 hpb hbc hcw hce o1 o2 o3 o4 o103 o102 o101 o100
        refine Pm_suc rfl (fun k => by rw [x_distinct]) (fun k => by rw [x_distinct]) (fun k3 hk3 => ?_)
        rw [o103, o102, o101, o100]
        refine Pm_ob (Pm_un (s_merge hU1 (PlE_1 (DsI_P hD')) hw hfw hpb hbc hcw rfl rfl rfl rfl) (fun k => f_merge k _ _ _) (s_merge hU2 (PlE_2 (DsI_P hD')) hw hfw hpb hbc hcw rfl rfl rfl rfl) (fun k => f_merge k _ _ _) (k_merge hU1 hU2 (DsI_P hD') hw hfw hpb hbc hcw (fun i hi => rfl) rfl rfl rfl rfl)) (fun r1 r2 hr => ?_)
        obtain ⟨q0, ⟨q1, q2, q3, q4, q5⟩, ⟨u1, u2, u3, u4, u5⟩⟩ := hr
        rw [hD'.1.2.1 28 (by decide), hD'.2.1.2.1 28 (by decide)] at q0
        refine ihj k3 (by omega) (p + 2 * s) _ _ _ (by omega) (by omega) o1 o2 o3 ?_ ⟨SF_tr hD'.1 q1, SF_tr hD'.2.1 u1, q3.trans hD'.2.2.1, u3.trans hD'.2.2.2.1, fun j hj => ?_⟩ (fun j hj hjw => ?_)
        · show O 4 + 2 * O 3 = _
          rw [o4, o3, show (2 : Int32) * nI s = nI (2 * s) from n_mulN 2 s, n_add (by omega)]
        · rw [q2, u2]; exact hD'.2.2.2.2 j hj
        · by_cases e : j < p
          · rw [q5 j (Or.inl e), u5 j (Or.inl e)]; exact hC j e hjw
          · exact q0 j (by omega) (by omega)
      have b4 : ∀ (m2 b : Nat) (O : Nat → Int32), m2 < m' → p ≤ b → b ≤ w → b ≤ p + s → O 1 = nI f → O 2 = nI w → O 3 = nI s → O 4 = nI p → O 102 = nI f → O 101 = nI p → O 100 = nI b → Pm m2 (fun k => x_distinct k 4 O υ1) (fun k => x_distinct k 4 O υ2) (DsO g1 g2 f w σ1 σ2) := by
        intro m2 b O hm2 hpb hbw hbs o1 o2 o3 o4 o102 o101 o100
        refine Pm_suc rfl (fun k => by rw [x_distinct]) (fun k => by rw [x_distinct]) (fun k3 hk3 => ?_)
        rw [o2, o4, o3, show (2 : Int32) * nI s = nI (2 * s) from n_mulN 2 s, n_add (p := p) (q := 2 * s) (by omega)]
        refine Pm_ite Iff.rfl (fun _ _ => ?_) (fun z _ => ?_)
        · refine Pm_suc rfl (fun k => by rw [x_distinct]) (fun k => by rw [x_distinct]) (fun k4 hk4 => ?_)
          exact b6 k4 b w _ (by omega) hpb hbw (Nat.le_refl _) (Or.inl rfl) o1 o2 o3 o4 o102 o101 o100 o2
        · have hc : p + 2 * s < w := by
            by_cases e : w ≤ p + 2 * s
            · exact absurd ((n_le (by omega) (by omega)).mpr e) z
            · omega
          exact b6 k3 b (p + 2 * s) _ (by omega) hpb (by omega) (by omega) (Or.inr rfl) o1 o2 o3 o4 o102 o101 o100 rfl
      refine Pm_ite Iff.rfl (fun _ _ => ?_) (fun z _ => ?_)
      · refine Pm_suc rfl (fun k => by rw [x_distinct]) (fun k => by rw [x_distinct]) (fun k3 hk3 => ?_)
        by_cases e : w ≤ p + s
        · exact b4 k3 w _ (by omega) (by omega) (Nat.le_refl _) e x1 x2 x3 x4 x1 rfl x2
        · rename_i h _
          exact absurd ((n_le (by omega) (by omega)).mp h) e
      · have hc : p + s < w := by
          by_cases e : w ≤ p + s
          · exact absurd ((n_le (by omega) (by omega)).mpr e) z
          · omega
        exact b4 k2 (p + s) _ (by omega) (by omega) (by omega) (Nat.le_refl _) x1 x2 x3 x4 x1 rfl rfl
    exact b2 k1 0 _ _ _ (by omega) (by omega) n1 n2 n3 rfl hD (fun j hj => absurd hj (Nat.not_lt_zero j))
  refine Pm_suc rfl (fun k => by rw [x_distinct]) (fun k => by rw [x_distinct]) (fun m1 _ => ?_)
  rw [t1, t2, d1, n_sub (by omega) (by omega), show f + w - f = w by omega]
  exact b1 m1 1 _ _ _ (Nat.le_refl _) (by omega) d1 rfl rfl ⟨SF_rf, SF_rf, rfl, rfl, hP⟩
theorem k_setOf {f w : Nat} (hS1 : HS g1 l1 B1 h1 σ1) (hS2 : HS g2 l2 B2 h2 σ2) (e1 : σ1.1 56 = 0) (e2 : σ2.1 56 = 0) (t1 : σ1.1 59 = nI (f + w)) (t2 : σ2.1 59 = nI (f + w)) (hw : w ≤ 60100) (hfw : f + w ≤ 185000) (hr1 : h1 + 4 + w ≤ B1 + 870000) (hr2 : h2 + 4 + w ≤ B2 + 870000) (hP : PlE g1 g2 σ1 σ2 f w) {L1 L2 : Nat → Int32} (d1 : L1 1 = nI f) (d2 : L2 1 = nI f) : Pm n (fun k => x_setOf k 0 L1 σ1) (fun k => x_setOf k 0 L2 σ2) (KQ h1 h2 (4 + w)) := by
  have hb1 := HS_b hS1
  have hb2 := HS_b hS2
  have x1 := hS1.2.1
  have x2 := hS2.2.1
  have un1 := s_setOf hS1 ⟨0, e1, by decide⟩ t1 hfw hw (PlE_1 hP) d1
  have un2 := s_setOf hS2 ⟨0, e2, by decide⟩ t2 hfw hw (PlE_2 hP) d2
  have core : Pm n (fun k => x_setOf k 0 L1 σ1) (fun k => x_setOf k 0 L2 σ2) (fun r1 r2 => ∃ (v : Nat) (c1 c2 : Nat → Int32), v ≤ w ∧ CeE g1 g2 (σ1.2.2 28) (σ2.2.2 28) c1 c2 v ∧ RwM (σ1.2.2 28) h1 6 v c1 r1 ∧ RwM (σ2.2.2 28) h2 6 v c2 r2) := by
    refine Pm_suc rfl (fun k => by rw [x_setOf]) (fun k => by rw [x_setOf]) (fun m1 _ => ?_)
    rw [d1, d2]
    refine Pm_ob (k_distinct hS1 hS2 t1 t2 hw hfw hP rfl) (fun r1 r2 hr => ?_)
    obtain ⟨v, hv, q1, q2, q3, q4, q5⟩ := hr
    rw [q3, q4, n_sub (by omega) (by omega), show f + v - f = v by omega]
    show Pm m1 (fun k => x_setOf k 1 (upd L1 2 (nI v)) (mSc r1.2 59 (nI f))) (fun k => x_setOf k 1 (upd L2 2 (nI v)) (mSc r2.2 59 (nI f))) _
    have hT1 : HS g1 l1 B1 h1 (mSc r1.2 59 (nI f)) := HS_c (SF_HS q1 hS1) rfl rfl rfl
    have hT2 : HS g2 l2 B2 h2 (mSc r2.2 59 (nI f)) := HS_c (SF_HS q2 hS2) rfl rfl rfl
    have a28 : (mSc r1.2 59 (nI f)).2.2 28 = σ1.2.2 28 := q1.2.1 28 (by decide)
    have b28 : (mSc r2.2 59 (nI f)).2.2 28 = σ2.2.2 28 := q2.2.1 28 (by decide)
    have v1 : PLv g1 ((mSc r1.2 59 (nI f)).2.2 29) f v := fun i hi => by
      obtain ⟨a, _, a1, a2, _⟩ := q5 i hi
      exact ⟨a, a1, a2⟩
    have v2 : PLv g2 ((mSc r2.2 59 (nI f)).2.2 29) f v := fun i hi => by
      obtain ⟨_, b, _, _, b1, b2, _⟩ := q5 i hi
      exact ⟨b, b1, b2⟩
    refine Pm_mono (Pm_u2 (u_set1 hT1 ((q1.1 56 (by decide)).trans e1) (by omega) (by omega) v1 (by exact d1) rfl) (u_set1 hT2 ((q2.1 56 (by decide)).trans e2) (by omega) (by omega) v2 (by exact d2) rfl)) (fun s1 s2 hs => ?_)
    rw [a28, b28] at hs
    exact ⟨v, _, _, hv, q5, hs.1, hs.2⟩
  refine Pm_mono (Pm_un un1 (fun k => f_setOf k _ _ _) un2 (fun k => f_setOf k _ _ _) core) (fun r1 r2 hr => ?_)
  obtain ⟨⟨v, c1, c2, hv, hc, a, b⟩, ⟨_, _, _, u1, _⟩, ⟨_, _, _, u2, _⟩⟩ := hr
  exact RwM_ev hS1 hS2 (Or.inr rfl) (by omega) hc u1.2.2.2 u2.2.2.2 (by omega) (by omega) a b
end KDS
end JnS168
section JnS169
/-! Two runs side by side (reference): members of sets. -/
/-- two objects that hold the same -/
def OE (g1 g2 : Nat → Prop) (H1 H2 : Nat → Int32) (v1 v2 k p : Nat) : Prop := g1 v1 ∧ g2 v2 ∧ 3 ≤ v1 ∧ 3 ≤ v2 ∧ (2 ≤ k ∧ k ≤ 6) ∧ p ≤ 3996 ∧ kdN H1 v1 = k ∧ kdN H2 v2 = k ∧ H1 v1 = nI k ∧ H2 v2 = nI k ∧ H1 (v1 + 1) = nI p ∧ H2 (v2 + 1) = nI p ∧ v1 + 4 + p ≤ 1740000 ∧ v2 + 4 + p ≤ 1740000 ∧ EVb H1 H2 v1 v2 ∧ (5 ≤ k → ∀ i, i < p → VC g1 g2 H1 H2 (H1 (v1 + 4 + i)) (H2 (v2 + 4 + i))) ∧ (k < 5 → ∀ i, i < p → H2 (v2 + 4 + i) = H1 (v1 + 4 + i))
section KHA
variable {g1 g2 : Nat → Prop} {l1 l2 : List Nat} {B1 h1 B2 h2 n : Nat} {σ1 σ2 : MS}
theorem OE_of (hS1 : HS g1 l1 B1 h1 σ1) (hS2 : HS g2 l2 B2 h2 σ2) {v1 v2 : Nat} (hv1 : g1 v1) (hv2 : v2 < 3 ∨ g2 v2) (hv : EVb (σ1.2.2 28) (σ2.2.2 28) v1 v2) : ∃ k p, OE g1 g2 (σ1.2.2 28) (σ2.2.2 28) v1 v2 k p := by
  obtain ⟨k, p, ga2, c3, c4, k6, hp, k2, kk, ka1, ka2, pa1, pa2, q1, q2⟩ := EVb_ob hS1 hS2 hv1 hv hv2
  have kk2 : kdN (σ2.2.2 28) v2 = k := ((EVb_sz hv).2.2).trans kk
  obtain ⟨i5, i6, i2⟩ := k56 k6.2
  refine ⟨k, p, hv1, ga2, c3, c4, k6, hp, kk, kk2, ka1, ka2, pa1, pa2, q1, q2, hv, fun h5 i hi => ?_, fun h4 i hi => ?_⟩
  · have hk : σ1.2.2 28 v1 = nI 5 ∨ σ1.2.2 28 v1 = nI 6 := by
      rw [ka1]
      have : k = 5 ∨ k = 6 := by omega
      exact this.imp (fun e => by rw [e]) (fun e => by rw [e])
    obtain ⟨c, d, c1, c2, d1, d2, cd⟩ := EVb_mem hv c3 hk pa1 hp hi
    have m1 := (htN_ch hS1 hv1 (by omega) pa1 hp hi c1 c2).1
    have m2 := (htN_ch hS2 ga2 (by omega) pa2 hp hi d1 d2).1
    exact ⟨c, d, c1, m1, d1, m2, cd, c2, d2⟩
  · refine EVb_raw hv c3 ?_ pa1 hp hi
    rw [ka1]
    intro z
    rcases z with z | z
    · have := i5.mp z; omega
    · have := i6.mp z; omega
theorem k_has {s1 s2 k p x1 x2 : Nat} (hS1 : HS g1 l1 B1 h1 σ1) (hS2 : HS g2 l2 B2 h2 σ2) (hO : OE g1 g2 (σ1.2.2 28) (σ2.2.2 28) s1 s2 k p) (hk : 5 ≤ k) (hx : VC g1 g2 (σ1.2.2 28) (σ2.2.2 28) (nI x1) (nI x2)) (hx1 : x1 < 1740000) (hx2 : x2 < 1740000) {L1 L2 : Nat → Int32} (d1 : L1 1 = nI s1) (d2 : L1 2 = nI x1) (f1 : L2 1 = nI s2) (f2 : L2 2 = nI x2) (hL : LE3 L1 L2) : Pm n (fun k => x_has k 0 L1 σ1) (fun k => x_has k 0 L2 σ2) (fun r1 r2 => r1.1 = r2.1) := by
  obtain ⟨o1, o2, o3, o4, o5, o6, o7, o8, o9, o10, o11, o12, o13, o14, o15, o16, o17⟩ := hO
  have hcell := o16 hk
  obtain ⟨y1, y2, z1, z2, z3, z4, z5, z6, z7⟩ := hx
  have ey1 : x1 = y1 := (n_eq (by omega) (by omega)).mp z1
  have ey2 : x2 = y2 := (n_eq (by omega) (by omega)).mp z3
  subst ey1
  subst ey2
  have lp : ∀ (m a b : Nat) (N1 N2 : Nat → Int32), a ≤ p → b ≤ p → LE3 N1 N2 → N1 1 = nI s1 → N1 2 = nI x1 → N2 1 = nI s2 → N2 2 = nI x2 → N1 3 = nI a → N1 4 = nI b - 1 → Pm m (fun k => x_has k 1 N1 σ1) (fun k => x_has k 1 N2 σ2) (fun r1 r2 => r1.1 = r2.1) := by
    intro m
    induction m using Nat.strongRecOn with
    | ind m ih =>
    intro a b N1 N2 ha hb hN e1 e2 w1 w2 e3 e4
    have w3 : N2 3 = nI a := (hN 3 (by omega)).symm.trans e3
    have w4 : N2 4 = nI b - 1 := (hN 4 (by omega)).symm.trans e4
    refine Pm_suc rfl (fun k => by rw [x_has]) (fun k => by rw [x_has]) (fun k1 hk1 => ?_)
    rw [e1, w1, e2, w2, e3, w3, e4, w4]
    refine Pm_ite Iff.rfl (fun _ _ => ?_) (fun y _ => ?_)
    · refine Pm_suc rfl (fun k => by rw [x_has]) (fun k => by rw [x_has]) (fun k2 hk2 => ?_)
      exact Pm_some rfl
    have hb1 : 1 ≤ b := by
      by_cases e : b = 0
      · refine absurd ?_ y
        rw [e]
        rw [i_lt, show (nI 0 - 1 : Int32).toInt = -1 from rfl, n_int (by omega)]
        omega
      · omega
    obtain ⟨c, rfl⟩ : ∃ c, b = c + 1 := ⟨b - 1, by omega⟩
    have ec : nI (c + 1) - 1 = nI c := n_sub1 (by omega)
    rw [ec] at y e4 w4
    rw [ec]
    have hac : a ≤ c := by
      by_cases e : c < a
      · exact absurd ((n_lt (by omega) (by omega)).mpr e) y
      · omega
    rw [n_add (p := a) (q := c) (by omega), show nI (a + c) / 2 = nI ((a + c) / 2) from n_div (q := 2) (by omega) (by decide) (by decide), show nI s1 + 4 = nI (s1 + 4) from n_add (q := 4) (by omega), show nI s2 + 4 = nI (s2 + 4) from n_add (q := 4) (by omega), n_add (p := s1 + 4) (by omega), n_add (p := s2 + 4) (by omega), n_cl (p := s1 + 4 + (a + c) / 2) (by omega), n_cl (p := s2 + 4 + (a + c) / 2) (by omega)]
    have hmid : (a + c) / 2 < p := by omega
    generalize hmd : (a + c) / 2 = md at hmid
    refine Pm_ite Iff.rfl (fun e _ => absurd e (by decide)) (fun _ _ => ?_)
    refine Pm_chk (fun _ _ => ?_)
    obtain ⟨u, v, u1, u2, u3, u4, u5, u6, u7⟩ := hcell md hmid
    rw [u1, u3]
    refine Pm_ob (k_compare hS1 hS2 u2 z2 u4 z4 u5 z5 rfl rfl rfl rfl) (fun r1 r2 hr => ?_)
    rw [hr.1, hr.2.1, hr.2.2]
    refine Pm_ite Iff.rfl (fun _ _ => Pm_some rfl) (fun _ _ => ?_)
    generalize r2.1 = cr
    have hM : LE3 (upd (upd N1 5 (nI md)) 6 cr) (upd (upd N2 5 (nI md)) 6 cr) := LE_u (LE_u hN rfl) rfl
    have b6 : ∀ (m' a' b' : Nat) (M1 M2 : Nat → Int32), m' < m → a' ≤ p → b' ≤ p → LE3 M1 M2 → M1 1 = nI s1 → M1 2 = nI x1 → M2 1 = nI s2 → M2 2 = nI x2 → M1 3 = nI a' → M1 100 = nI b' - 1 → Pm m' (fun k => x_has k 6 M1 σ1) (fun k => x_has k 6 M2 σ2) (fun r1 r2 => r1.1 = r2.1) := by
      intro m' a' b' M1 M2 hm' ha' hb' hM e1 e2 w1 w2 e3 e100
      refine Pm_suc rfl (fun k => by rw [x_has]) (fun k => by rw [x_has]) (fun k2 hk2 => ?_)
      exact ih k2 (by omega) a' b' _ _ ha' hb' (LE_u hM (hM 100 (by omega))) e1 e2 w1 w2 e3 e100
    refine Pm_suc rfl (fun k => by rw [x_has]) (fun k => by rw [x_has]) (fun k2 hk2 => ?_)
    rw [show upd (upd N1 5 (nI md)) 6 cr 6 = cr from rfl, show upd (upd N2 5 (nI md)) 6 cr 6 = cr from rfl]
    refine Pm_ite Iff.rfl (fun z _ => ?_) (fun z _ => ?_)
    · refine Pm_suc rfl (fun k => by rw [x_has]) (fun k => by rw [x_has]) (fun k3 hk3 => ?_)
      refine Pm_suc rfl (fun k => by rw [x_has]) (fun k => by rw [x_has]) (fun k4 hk4 => ?_)
      refine Pm_ite Iff.rfl (fun _ _ => ?_) (fun q _ => absurd z q)
      refine Pm_suc rfl (fun k => by rw [x_has]) (fun k => by rw [x_has]) (fun k5 hk5 => ?_)
      exact b6 k5 a md _ _ (by omega) ha (by omega) (LE_u (LE_u (LE_u hM (by show N1 3 = N2 3; rw [e3, w3])) (by show N1 3 = N2 3; rw [e3, w3])) rfl) e1 e2 w1 w2 e3 rfl
    · refine Pm_suc rfl (fun k => by rw [x_has]) (fun k => by rw [x_has]) (fun k3 hk3 => ?_)
      refine Pm_ite Iff.rfl (fun q _ => absurd q z) (fun _ _ => ?_)
      exact b6 k3 (md + 1) (c + 1) _ _ (by omega) (by omega) hb (LE_u (LE_u (LE_u hM rfl) rfl) (by show N1 4 = N2 4; rw [e4, w4])) e1 e2 w1 w2 (by show nI md + 1 = _; rw [n_add1]) (by show N1 4 = _; rw [e4, ec])
  refine Pm_suc rfl (fun k => by rw [x_has]) (fun k => by rw [x_has]) (fun m1 _ => ?_)
  rw [d1, f1, n_add1, n_add1, n_cl (p := s1 + 1) (by omega), n_cl (p := s2 + 1) (by omega), o11, o12]
  refine Pm_chk (fun _ _ => ?_)
  exact lp m1 0 p _ _ (Nat.zero_le _) (Nat.le_refl _) (LE_u (LE_u hL rfl) rfl) d1 d2 f1 f2 rfl rfl
theorem k_isSubset {s1 s2 k p v1 v2 k' p' : Nat} (hS1 : HS g1 l1 B1 h1 σ1) (hS2 : HS g2 l2 B2 h2 σ2) (hO : OE g1 g2 (σ1.2.2 28) (σ2.2.2 28) s1 s2 k p) (hk : 5 ≤ k) (hO' : OE g1 g2 (σ1.2.2 28) (σ2.2.2 28) v1 v2 k' p') (hk' : 5 ≤ k') {L1 L2 : Nat → Int32} (d1 : L1 1 = nI s1) (d2 : L1 2 = nI v1) (f1 : L2 1 = nI s2) (f2 : L2 2 = nI v2) (hL : LE3 L1 L2) : Pm n (fun k => x_isSubset k 0 L1 σ1) (fun k => x_isSubset k 0 L2 σ2) (fun r1 r2 => r1.1 = r2.1) := by
  have hO0 := hO
  obtain ⟨o1, o2, o3, o4, o5, o6, o7, o8, o9, o10, o11, o12, o13, o14, o15, o16, o17⟩ := hO
  have hcell := o16 hk
  have lp : ∀ (m i : Nat) (N1 N2 : Nat → Int32), i ≤ p → LE3 N1 N2 → N1 1 = nI s1 → N1 2 = nI v1 → N2 1 = nI s2 → N2 2 = nI v2 → N1 4 = nI i → Pm m (fun k => x_isSubset k 1 N1 σ1) (fun k => x_isSubset k 1 N2 σ2) (fun r1 r2 => r1.1 = r2.1) := by
    intro m
    induction m using Nat.strongRecOn with
    | ind m ih =>
    intro i N1 N2 hi hN e1 e2 w1 w2 e4
    have w4 : N2 4 = nI i := (hN 4 (by omega)).symm.trans e4
    have b2 : ∀ m', Pm m' (fun k => x_isSubset k 2 N1 σ1) (fun k => x_isSubset k 2 N2 σ2) (fun r1 r2 => r1.1 = r2.1) := fun m' => by
      refine Pm_suc rfl (fun k => by rw [x_isSubset]) (fun k => by rw [x_isSubset]) (fun k2 _ => ?_)
      refine Pm_chk (fun _ _ => ?_)
      exact Pm_some (hN 3 (by omega))
    refine Pm_suc rfl (fun k => by rw [x_isSubset]) (fun k => by rw [x_isSubset]) (fun k1 hk1 => ?_)
    rw [e1, w1, e2, w2, e4, w4, n_add1 s1, n_add1 s2, n_cl (p := s1 + 1) (by omega), n_cl (p := s2 + 1) (by omega), o11, o12, show nI s1 + 4 = nI (s1 + 4) from n_add (q := 4) (by omega), show nI s2 + 4 = nI (s2 + 4) from n_add (q := 4) (by omega), n_add (p := s1 + 4) (by omega), n_add (p := s2 + 4) (by omega), n_cl (p := s1 + 4 + i) (by omega), n_cl (p := s2 + 4 + i) (by omega)]
    refine Pm_chk (fun _ _ => ?_)
    refine Pm_ite Iff.rfl (fun _ _ => b2 k1) (fun y _ => ?_)
    have hip : i < p := by
      by_cases e : p ≤ i
      · exact absurd ((n_le (by omega) (by omega)).mpr e) y
      · omega
    refine Pm_ite (by rw [hN 3 (by omega)]) (fun _ _ => b2 k1) (fun _ _ => ?_)
    refine Pm_chk (fun _ _ => ?_)
    have hv := hcell i hip
    obtain ⟨u, v, u1, u2, u3, u4, u5, u6, u7⟩ := hcell i hip
    rw [u1, u3] at hv
    rw [u1, u3]
    refine Pm_ob (Pm_un (s_has hS1 hO'.1 (by rw [hO'.2.2.2.2.2.2.1]; exact hk') u2 rfl rfl) (fun k => f_has k _ _ _) (s_has hS2 hO'.2.1 (by rw [hO'.2.2.2.2.2.2.2.1]; exact hk') u4 rfl rfl) (fun k => f_has k _ _ _) (k_has hS1 hS2 hO' hk' hv u6 u7 rfl rfl rfl rfl (fun i hi => by rw [upd_other (by omega), upd_other (by omega), upd_other (by omega), upd_other (by omega)]))) (fun r1 r2 hr => ?_)
    obtain ⟨q0, ⟨q1, _⟩, ⟨q2, _⟩⟩ := hr
    rw [q0, q1, q2]
    exact ih k1 (by omega) (i + 1) _ _ (by omega) (LE_u (LE_u hN rfl) rfl) e1 e2 w1 w2 (by show nI i + 1 = _; rw [n_add1])
  refine Pm_suc rfl (fun k => by rw [x_isSubset]) (fun k => by rw [x_isSubset]) (fun m1 _ => ?_)
  exact lp m1 0 _ _ (Nat.zero_le _) (LE_u (LE_u hL rfl) rfl) d1 d2 f1 f2 rfl
/-- values are being pushed on both sides -/
def KPu (g1 g2 : Nat → Prop) (f w : Nat) (σ1 σ2 τ1 τ2 : MS) : Prop := PuS g1 f w σ1 τ1 ∧ PuS g2 f w σ2 τ2 ∧ PlE g1 g2 τ1 τ2 f w
theorem KPu_0 {f : Nat} (t1 : σ1.1 59 = nI f) (t2 : σ2.1 59 = nI f) : KPu g1 g2 f 0 σ1 σ2 σ1 σ2 := ⟨PuS_0 t1, PuS_0 t2, fun i hi => absurd hi (Nat.not_lt_zero i)⟩
theorem k_push {f w : Nat} {τ1 τ2 : MS} {x y : Int32} (hK : KPu g1 g2 f w σ1 σ2 τ1 τ2) (hfw : f + w < 185000) (hv : VC g1 g2 (σ1.2.2 28) (σ2.2.2 28) x y) {L1 L2 : Nat → Int32} (d1 : L1 1 = x) (d2 : L2 1 = y) : Pm n (fun k => x_push k 0 L1 τ1) (fun k => x_push k 0 L2 τ2) (fun r1 r2 => KPu g1 g2 f (w + 1) σ1 σ2 r1.2 r2.2) := by
  obtain ⟨k1, k2, k3⟩ := hK
  have hv0 := hv
  obtain ⟨a, b, a1, a2, b1, b2, ev, ab, bb⟩ := hv
  refine Pm_mono (Pm_t2 (s_push k1.2.2.2.1 hfw L1) (fun k => f_push k _ _ _) (s_push k2.2.2.2.1 hfw L2) (fun k => f_push k _ _ _)) (fun r1 r2 hr => ?_)
  rw [hr.1, hr.2, d1, d2]
  refine ⟨?_, ?_, fun i hi => ?_⟩
  · rw [a1]; exact PuS_pu k1 a2
  · rw [b1]; exact PuS_pu k2 b2
  · show VC g1 g2 ((mPu τ1 (f + w) x).2.2 28) ((mPu τ2 (f + w) y).2.2 28) ((mPu τ1 (f + w) x).2.2 29 (f + i)) ((mPu τ2 (f + w) y).2.2 29 (f + i))
    rw [mPu_o (by decide), mPu_o (by decide), mPu_29, mPu_29]
    by_cases e : i = w
    · rw [e, upd_same, upd_same, k1.2.1 28 (by decide), k2.2.1 28 (by decide)]; exact hv0
    · rw [upd_other (by omega), upd_other (by omega)]; exact k3 i (by omega)
theorem k_setP {f w : Nat} {τ1 τ2 : MS} (hK : KPu g1 g2 f w σ1 σ2 τ1 τ2) (hS1 : HS g1 l1 B1 h1 σ1) (hS2 : HS g2 l2 B2 h2 σ2) (e1 : σ1.1 56 = 0) (e2 : σ2.1 56 = 0) (hw : w ≤ 60100) (hfw : f + w ≤ 185000) (hr1 : h1 + 4 + w ≤ B1 + 870000) (hr2 : h2 + 4 + w ≤ B2 + 870000) {L1 L2 : Nat → Int32} (d1 : L1 1 = nI f) (d2 : L2 1 = nI f) : Pm n (fun k => x_setOf k 0 L1 τ1) (fun k => x_setOf k 0 L2 τ2) (KQ h1 h2 (4 + w)) := k_setOf (PuS_HS hK.1 hS1) (PuS_HS hK.2.1 hS2) ((hK.1.1 56 (by decide)).trans e1) ((hK.2.1.1 56 (by decide)).trans e2) hK.1.2.2.2.1 hK.2.1.2.2.2.1 hw hfw hr1 hr2 hK.2.2 d1 d2
theorem k_tupP {f w : Nat} {τ1 τ2 : MS} (hK : KPu g1 g2 f w σ1 σ2 τ1 τ2) (hS1 : HS g1 l1 B1 h1 σ1) (hS2 : HS g2 l2 B2 h2 σ2) (e1 : σ1.1 56 = 0) (e2 : σ2.1 56 = 0) (hfw : f + w ≤ 185000) (hr1 : h1 + 4 + w ≤ B1 + 870000) (hr2 : h2 + 4 + w ≤ B2 + 870000) {L1 L2 : Nat → Int32} (d1 : L1 1 = nI f) (d2 : L2 1 = nI f) : Pm n (fun k => x_tupleOf k 0 L1 τ1) (fun k => x_tupleOf k 0 L2 τ2) (KQ h1 h2 (4 + w)) := k_tupleOf (PuS_HS hK.1 hS1) (PuS_HS hK.2.1 hS2) ((hK.1.1 56 (by decide)).trans e1) ((hK.2.1.1 56 (by decide)).trans e2) hK.1.2.2.2.1 hK.2.1.2.2.2.1 hfw hr1 hr2 hK.2.2 d1 d2
theorem KQ_mo {K K' : Nat} {r1 r2 : Int32 × MS} (h : KQ h1 h2 K r1 r2) (hK : K ≤ K') : KQ h1 h2 K' r1 r2 := by
  obtain ⟨a, b, p1, p2, c1, c2, c3, c4⟩ := h
  exact ⟨a, b, p1, p2, c1, c2, by omega, by omega⟩
theorem k_sift {f s1 s2 k p v1 v2 k' p' : Nat} (hS1 : HS g1 l1 B1 h1 σ1) (hS2 : HS g2 l2 B2 h2 σ2) (e1 : σ1.1 56 = 0) (e2 : σ2.1 56 = 0) (t1 : σ1.1 59 = nI f) (t2 : σ2.1 59 = nI f) (hf : f ≤ 177000) (hr1 : h1 + 4000 ≤ B1 + 870000) (hr2 : h2 + 4000 ≤ B2 + 870000) (hO : OE g1 g2 (σ1.2.2 28) (σ2.2.2 28) s1 s2 k p) (hk : 5 ≤ k) (hO' : OE g1 g2 (σ1.2.2 28) (σ2.2.2 28) v1 v2 k' p') (hk' : 5 ≤ k') {L1 L2 : Nat → Int32} (d1 : L1 1 = nI s1) (d2 : L1 2 = nI v1) (f1 : L2 1 = nI s2) (f2 : L2 2 = nI v2) (hL : LE3 L1 L2) : Pm n (fun k => x_sift k 0 L1 σ1) (fun k => x_sift k 0 L2 σ2) (KQ h1 h2 4000) := by
  have hO0 := hO
  obtain ⟨o1, o2, o3, o4, o5, o6, o7, o8, o9, o10, o11, o12, o13, o14, o15, o16, o17⟩ := hO
  have hcell := o16 hk
  have lp : ∀ (m i w : Nat) (N1 N2 : Nat → Int32) (τ1 τ2 : MS), i ≤ p → w ≤ i → LE3 N1 N2 → N1 1 = nI s1 → N1 2 = nI v1 → N2 1 = nI s2 → N2 2 = nI v2 → N1 4 = nI f → N1 5 = nI i → KPu g1 g2 f w σ1 σ2 τ1 τ2 → Pm m (fun k => x_sift k 1 N1 τ1) (fun k => x_sift k 1 N2 τ2) (KQ h1 h2 4000) := by
    intro m
    induction m using Nat.strongRecOn with
    | ind m ih =>
    intro i w N1 N2 τ1 τ2 hi hwi hN x1 x2 w1 w2 x4 x5 hK
    have w4 : N2 4 = nI f := (hN 4 (by omega)).symm.trans x4
    have w5 : N2 5 = nI i := (hN 5 (by omega)).symm.trans x5
    have a28 : τ1.2.2 28 = σ1.2.2 28 := hK.1.2.1 28 (by decide)
    have b28 : τ2.2.2 28 = σ2.2.2 28 := hK.2.1.2.1 28 (by decide)
    have hT1 := PuS_HS hK.1 hS1
    have hT2 := PuS_HS hK.2.1 hS2
    refine Pm_suc rfl (fun k => by rw [x_sift]) (fun k => by rw [x_sift]) (fun k1 hk1 => ?_)
    rw [x1, w1, x2, w2, x5, w5, n_add1, n_add1, n_cl (p := s1 + 1) (by omega), n_cl (p := s2 + 1) (by omega), a28, b28, o11, o12, show nI s1 + 4 = nI (s1 + 4) from n_add (q := 4) (by omega), show nI s2 + 4 = nI (s2 + 4) from n_add (q := 4) (by omega), n_add (p := s1 + 4) (by omega), n_add (p := s2 + 4) (by omega), n_cl (p := s1 + 4 + i) (by omega), n_cl (p := s2 + 4 + i) (by omega)]
    refine Pm_chk (fun _ _ => ?_)
    refine Pm_ite Iff.rfl (fun _ _ => ?_) (fun y _ => ?_)
    · refine Pm_suc rfl (fun k => by rw [x_sift]) (fun k => by rw [x_sift]) (fun k2 hk2 => ?_)
      refine Pm_ob (k_setP hK hS1 hS2 e1 e2 (by omega) (by omega) (by omega) (by omega) (by exact x4) (by exact w4)) (fun r1 r2 hr => Pm_some (KQ_mo hr (by omega)))
    have hip : i < p := by
      by_cases e : p ≤ i
      · exact absurd ((n_le (by omega) (by omega)).mpr e) y
      · omega
    have b2 : ∀ (m' w' : Nat) (υ1 υ2 : MS), m' < m → w' ≤ i + 1 → KPu g1 g2 f w' σ1 σ2 υ1 υ2 → Pm m' (fun k => x_sift k 2 N1 υ1) (fun k => x_sift k 2 N2 υ2) (KQ h1 h2 4000) := by
      intro m' w' υ1 υ2 hm' hw' hK'
      refine Pm_suc rfl (fun k => by rw [x_sift]) (fun k => by rw [x_sift]) (fun k2 hk2 => ?_)
      exact ih k2 (by omega) (i + 1) w' _ _ _ _ (by omega) hw' (LE_u hN (by rw [x5, w5])) x1 x2 w1 w2 x4 (by show N1 5 + 1 = _; rw [x5, n_add1]) hK'
    refine Pm_chk (fun _ _ => ?_)
    have hv := hcell i hip
    have hv0 := hcell i hip
    obtain ⟨u, v, u1, u2, u3, u4, u5, u6, u7⟩ := hcell i hip
    rw [u1, u3] at hv
    rw [u1, u3]
    have hO'' : OE g1 g2 (τ1.2.2 28) (τ2.2.2 28) v1 v2 k' p' := by rw [a28, b28]; exact hO'
    have hv'' : VC g1 g2 (τ1.2.2 28) (τ2.2.2 28) (nI u) (nI v) := by rw [a28, b28]; exact hv
    refine Pm_ob (Pm_un (s_has hT1 hO''.1 (by rw [hO''.2.2.2.2.2.2.1]; exact hk') u2 rfl rfl) (fun k => f_has k _ _ _) (s_has hT2 hO''.2.1 (by rw [hO''.2.2.2.2.2.2.2.1]; exact hk') u4 rfl rfl) (fun k => f_has k _ _ _) (k_has hT1 hT2 hO'' hk' hv'' u6 u7 rfl rfl rfl rfl (fun i hi => by rw [upd_other (by omega), upd_other (by omega), upd_other (by omega), upd_other (by omega)]))) (fun r1 r2 hr => ?_)
    obtain ⟨q0, ⟨q1, _⟩, ⟨q2, _⟩⟩ := hr
    rw [q0, q1, q2, a28, b28, u1, u3]
    refine Pm_ite (by rw [hN 3 (by omega)]) (fun _ _ => ?_) (fun _ _ => b2 k1 w _ _ (by omega) (by omega) hK)
    refine Pm_chk (fun _ _ => ?_)
    exact Pm_ob (k_push hK (by omega) hv rfl rfl) (fun r1 r2 hr => b2 k1 (w + 1) _ _ (by omega) (by omega) hr)
  refine Pm_suc rfl (fun k => by rw [x_sift]) (fun k => by rw [x_sift]) (fun m1 _ => ?_)
  rw [t1, t2]
  exact lp m1 0 0 _ _ _ _ (Nat.zero_le _) (Nat.le_refl _) (LE_u (LE_u hL rfl) rfl) d1 d2 f1 f2 rfl rfl (KPu_0 t1 t2)
end KHA
end JnS169
section JnS170
/-! Two runs side by side (reference): strings, joined, plus (made by j2.py). -/
section KJO
variable {g1 g2 : Nat → Prop} {l1 l2 : List Nat} {B1 h1 B2 h2 n : Nat} {σ1 σ2 : MS}
theorem k_stringOf51 {f1 f2 w : Nat} (hS1 : HS g1 l1 B1 h1 σ1) (hS2 : HS g2 l2 B2 h2 σ2) (e1 : σ1.1 56 = 0) (e2 : σ2.1 56 = 0) (hr1 : h1 + 4004 ≤ B1 + 870000) (hr2 : h2 + 4004 ≤ B2 + 870000) (hw : w ≤ 60000) (q1 : w ≤ 3996 → f1 + w ≤ 8200) (q2 : w ≤ 3996 → f2 + w ≤ 8200) (hc : ∀ i, i < w → σ1.2.2 51 (f1 + i) = σ2.2.2 51 (f2 + i)) {L1 L2 : Nat → Int32} (d1 : L1 2 = nI f1) (d2 : L2 2 = nI f2) (d3 : L1 3 = nI w) (d4 : L2 3 = nI w) : Pm n (fun k => x_stringOf__51 k 0 L1 σ1) (fun k => x_stringOf__51 k 0 L2 σ2) (KQ h1 h2 4004) := by
  have hb1 := HS_b hS1
  have hb2 := HS_b hS2
  have x1 := hS1.2.1
  have x2 := hS2.2.1
  by_cases hn : w ≤ 3996
  · refine Pm_mono (Pm_u2 (u_stringOf51 hS1 e1 hn (by omega) (q1 hn) d1 d3) (u_stringOf51 hS2 e2 hn (by omega) (q2 hn) d2 d4)) (fun r1 r2 hr => ?_)
    exact NwO_ev (by omega) hn (by omega) (by omega) (by omega) (by omega) (by omega) hr.1 hr.2 hc
  · refine Pm_mono (Pm_u2 (v_stringOf51 hn hw d3) (v_stringOf51 hn hw d4)) (fun r1 r2 hr => ?_)
    rw [hr.1, hr.2]
    exact KQ_er (mEr_e (by decide)) (mEr_e (by decide)) ((mEr_s (by decide)).trans hS1.2.2.1) ((mEr_s (by decide)).trans hS2.2.2.1)
theorem k_stringOf48 {f1 f2 w : Nat} (hS1 : HS g1 l1 B1 h1 σ1) (hS2 : HS g2 l2 B2 h2 σ2) (e1 : σ1.1 56 = 0) (e2 : σ2.1 56 = 0) (hr1 : h1 + 4004 ≤ B1 + 870000) (hr2 : h2 + 4004 ≤ B2 + 870000) (hw : w ≤ 60000) (q1 : w ≤ 3996 → f1 + w ≤ 12000) (q2 : w ≤ 3996 → f2 + w ≤ 12000) (hc : ∀ i, i < w → σ1.2.2 48 (f1 + i) = σ2.2.2 48 (f2 + i)) {L1 L2 : Nat → Int32} (d1 : L1 2 = nI f1) (d2 : L2 2 = nI f2) (d3 : L1 3 = nI w) (d4 : L2 3 = nI w) : Pm n (fun k => x_stringOf__48 k 0 L1 σ1) (fun k => x_stringOf__48 k 0 L2 σ2) (KQ h1 h2 4004) := by
  have hb1 := HS_b hS1
  have hb2 := HS_b hS2
  have x1 := hS1.2.1
  have x2 := hS2.2.1
  by_cases hn : w ≤ 3996
  · refine Pm_mono (Pm_u2 (u_stringOf48 hS1 e1 hn (by omega) (q1 hn) d1 d3) (u_stringOf48 hS2 e2 hn (by omega) (q2 hn) d2 d4)) (fun r1 r2 hr => ?_)
    exact NwO_ev (by omega) hn (by omega) (by omega) (by omega) (by omega) (by omega) hr.1 hr.2 hc
  · refine Pm_mono (Pm_u2 (v_stringOf48 hn hw d3) (v_stringOf48 hn hw d4)) (fun r1 r2 hr => ?_)
    rw [hr.1, hr.2]
    exact KQ_er (mEr_e (by decide)) (mEr_e (by decide)) ((mEr_s (by decide)).trans hS1.2.2.1) ((mEr_s (by decide)).trans hS2.2.2.1)
theorem k_stringOf28 {f1 f2 w : Nat} (hS1 : HS g1 l1 B1 h1 σ1) (hS2 : HS g2 l2 B2 h2 σ2) (e1 : σ1.1 56 = 0) (e2 : σ2.1 56 = 0) (hr1 : h1 + 4004 ≤ B1 + 870000) (hr2 : h2 + 4004 ≤ B2 + 870000) (hw : w ≤ 60000) (q1 : w ≤ 3996 → f1 + w ≤ h1) (q2 : w ≤ 3996 → f2 + w ≤ h2) (hc : ∀ i, i < w → σ1.2.2 28 (f1 + i) = σ2.2.2 28 (f2 + i)) {L1 L2 : Nat → Int32} (d1 : L1 2 = nI f1) (d2 : L2 2 = nI f2) (d3 : L1 3 = nI w) (d4 : L2 3 = nI w) : Pm n (fun k => x_stringOf__28 k 0 L1 σ1) (fun k => x_stringOf__28 k 0 L2 σ2) (KQ h1 h2 4004) := by
  have hb1 := HS_b hS1
  have hb2 := HS_b hS2
  have x1 := hS1.2.1
  have x2 := hS2.2.1
  by_cases hn : w ≤ 3996
  · refine Pm_mono (Pm_u2 (u_stringOf28 hS1 e1 hn (by omega) (q1 hn) d1 d3) (u_stringOf28 hS2 e2 hn (by omega) (q2 hn) d2 d4)) (fun r1 r2 hr => ?_)
    exact NwO_ev (by omega) hn (by omega) (by omega) (by omega) (by omega) (by omega) hr.1 hr.2 hc
  · refine Pm_mono (Pm_u2 (v_stringOf28 hn hw d3) (v_stringOf28 hn hw d4)) (fun r1 r2 hr => ?_)
    rw [hr.1, hr.2]
    exact KQ_er (mEr_e (by decide)) (mEr_e (by decide)) ((mEr_s (by decide)).trans hS1.2.2.1) ((mEr_s (by decide)).trans hS2.2.2.1)
theorem k_stringOf12 {f1 f2 w : Nat} (hS1 : HS g1 l1 B1 h1 σ1) (hS2 : HS g2 l2 B2 h2 σ2) (e1 : σ1.1 56 = 0) (e2 : σ2.1 56 = 0) (hr1 : h1 + 4004 ≤ B1 + 870000) (hr2 : h2 + 4004 ≤ B2 + 870000) (hw : w ≤ 60000) (q1 : w ≤ 3996 → f1 + w ≤ 70000) (q2 : w ≤ 3996 → f2 + w ≤ 70000) (hc : ∀ i, i < w → σ1.2.2 12 (f1 + i) = σ2.2.2 12 (f2 + i)) {L1 L2 : Nat → Int32} (d1 : L1 2 = nI f1) (d2 : L2 2 = nI f2) (d3 : L1 3 = nI w) (d4 : L2 3 = nI w) : Pm n (fun k => x_stringOf__12 k 0 L1 σ1) (fun k => x_stringOf__12 k 0 L2 σ2) (KQ h1 h2 4004) := by
  have hb1 := HS_b hS1
  have hb2 := HS_b hS2
  have x1 := hS1.2.1
  have x2 := hS2.2.1
  by_cases hn : w ≤ 3996
  · refine Pm_mono (Pm_u2 (u_stringOf12 hS1 e1 hn (by omega) (q1 hn) d1 d3) (u_stringOf12 hS2 e2 hn (by omega) (q2 hn) d2 d4)) (fun r1 r2 hr => ?_)
    exact NwO_ev (by omega) hn (by omega) (by omega) (by omega) (by omega) (by omega) hr.1 hr.2 hc
  · refine Pm_mono (Pm_u2 (v_stringOf12 hn hw d3) (v_stringOf12 hn hw d4)) (fun r1 r2 hr => ?_)
    rw [hr.1, hr.2]
    exact KQ_er (mEr_e (by decide)) (mEr_e (by decide)) ((mEr_s (by decide)).trans hS1.2.2.1) ((mEr_s (by decide)).trans hS2.2.2.1)
theorem k_er {e : Int32} {K : Nat} (he : ¬ e = 0) (hS1 : HS g1 l1 B1 h1 σ1) (hS2 : HS g2 l2 B2 h2 σ2) : KQ h1 h2 K (0, mEr σ1 e) (0, mEr σ2 e) := KQ_er (mEr_e he) (mEr_e he) ((mEr_s (by decide)).trans hS1.2.2.1) ((mEr_s (by decide)).trans hS2.2.2.1)
theorem k_wrongKind {K : Nat} (hS1 : HS g1 l1 B1 h1 σ1) (hS2 : HS g2 l2 B2 h2 σ2) (L1 L2 : Nat → Int32) : Pm n (fun k => x_wrongKind k 0 L1 σ1) (fun k => x_wrongKind k 0 L2 σ2) (KQ h1 h2 K) :=
  Pm_mono (Pm_t2 (s_wrongKind L1) (fun k => f_wrongKind k _ _ _) (s_wrongKind L2) (fun k => f_wrongKind k _ _ _)) (fun r1 r2 hr => by rw [hr.1, hr.2]; exact k_er (by decide) hS1 hS2)
theorem k_fail {K : Nat} {e : Int32} (he : ¬ e = 0) (hS1 : HS g1 l1 B1 h1 σ1) (hS2 : HS g2 l2 B2 h2 σ2) {L1 L2 : Nat → Int32} (d1 : L1 1 = e) (d2 : L2 1 = e) : Pm n (fun k => x_fail k 0 L1 σ1) (fun k => x_fail k 0 L2 σ2) (fun r1 r2 => r1 = (0, mEr σ1 e) ∧ r2 = (0, mEr σ2 e) ∧ KQ h1 h2 K (0, mEr σ1 e) (0, mEr σ2 e)) :=
  Pm_mono (Pm_t2 (s_fail L1 σ1) (fun k => f_fail k _ _ _) (s_fail L2 σ2) (fun k => f_fail k _ _ _)) (fun r1 r2 hr => ⟨by rw [hr.1, d1], by rw [hr.2, d2], k_er he hS1 hS2⟩)
theorem k_joined {a1 a2 p b1 b2 q : Nat} (hS1 : HS g1 l1 B1 h1 σ1) (hS2 : HS g2 l2 B2 h2 σ2) (e1 : σ1.1 56 = 0) (e2 : σ2.1 56 = 0) (hr1 : h1 + 4004 ≤ B1 + 870000) (hr2 : h2 + 4004 ≤ B2 + 870000) (hA : OE g1 g2 (σ1.2.2 28) (σ2.2.2 28) a1 a2 4 p) (hB : OE g1 g2 (σ1.2.2 28) (σ2.2.2 28) b1 b2 4 q) {L1 L2 : Nat → Int32} (d1 : L1 1 = nI a1) (d2 : L1 2 = nI b1) (f1 : L2 1 = nI a2) (f2 : L2 2 = nI b2) (hL : LE3 L1 L2) : Pm n (fun k => x_joined k 0 L1 σ1) (fun k => x_joined k 0 L2 σ2) (KQ h1 h2 4004) := by
  obtain ⟨_, _, _, _, _, o6, _, _, _, _, o11, o12, o13, o14, _, _, o17⟩ := hA
  obtain ⟨_, _, _, _, _, p6, _, _, _, _, p11, p12, p13, p14, _, _, p17⟩ := hB
  have ca := o17 (by decide)
  have cb := p17 (by decide)
  have b4 : ∀ (m i : Nat) (N1 N2 : Nat → Int32) (τ1 τ2 : MS), i ≤ q → LE3 N1 N2 → N1 2 = nI b1 → N2 2 = nI b2 → N1 3 = nI p → N1 4 = nI q → N1 5 = nI i → (∀ j, τ1.1 j = σ1.1 j) → (∀ j, τ2.1 j = σ2.1 j) → (∀ j, j ≠ 51 → τ1.2.2 j = σ1.2.2 j) → (∀ j, j ≠ 51 → τ2.2.2 j = σ2.2.2 j) → AgN (τ1.2.2 51) (τ2.2.2 51) (p + i) → Pm m (fun k => x_joined k 4 N1 τ1) (fun k => x_joined k 4 N2 τ2) (KQ h1 h2 4004) := by
    intro m
    induction m using Nat.strongRecOn with
    | ind m ih =>
    intro i N1 N2 τ1 τ2 hi hN x2 y2 x3 x4 x5 s1 s2 t1 t2 hC
    have y3 : N2 3 = nI p := (hN 3 (by omega)).symm.trans x3
    have y4 : N2 4 = nI q := (hN 4 (by omega)).symm.trans x4
    have y5 : N2 5 = nI i := (hN 5 (by omega)).symm.trans x5
    refine Pm_suc rfl (fun k => by rw [x_joined]) (fun k => by rw [x_joined]) (fun k1 hk1 => ?_)
    rw [x2, y2, x3, y3, x4, y4, x5, y5, show nI b1 + 4 = nI (b1 + 4) from n_add (q := 4) (by omega), show nI b2 + 4 = nI (b2 + 4) from n_add (q := 4) (by omega), n_add (p := b1 + 4) (by omega), n_add (p := b2 + 4) (by omega), n_add (p := p) (by omega), n_cl (p := b1 + 4 + i) (by omega), n_cl (p := b2 + 4 + i) (by omega), n_cl (p := p + i) (by omega)]
    refine Pm_ite Iff.rfl (fun y _ => ?_) (fun y _ => ?_)
    · have y := (n_le (by omega) (by omega)).mp y
      have e : i = q := by omega
      rw [e] at hC
      refine Pm_suc rfl (fun k => by rw [x_joined]) (fun k => by rw [x_joined]) (fun k2 hk2 => ?_)
      rw [x3, y3, x4, y4, n_add (by omega)]
      exact Pm_ob (k_stringOf51 (f1 := 0) (f2 := 0) (w := p + q) (HS_c hS1 (s1 54) (s1 55) (t1 28 (by decide))) (HS_c hS2 (s2 54) (s2 55) (t2 28 (by decide))) ((s1 56).trans e1) ((s2 56).trans e2) hr1 hr2 (by omega) (fun _ => by omega) (fun _ => by omega) (fun i hi => by rw [Nat.zero_add]; exact hC i hi) rfl rfl rfl rfl) (fun r1 r2 hr => Pm_some hr)
    have hiq : i < q := by
      by_cases e : q ≤ i
      · exact absurd ((n_le (by omega) (by omega)).mpr e) y
      · omega
    refine Pm_chk (fun _ _ => ?_)
    refine Pm_chk (fun _ _ => ?_)
    show Pm k1 (fun k => x_joined k 5 N1 (mAr τ1 51 (p + i) (τ1.2.2 28 (b1 + 4 + i)))) (fun k => x_joined k 5 N2 (mAr τ2 51 (p + i) (τ2.2.2 28 (b2 + 4 + i)))) _
    refine Pm_suc rfl (fun k => by rw [x_joined]) (fun k => by rw [x_joined]) (fun k2 hk2 => ?_)
    refine ih k2 (by omega) (i + 1) _ _ _ _ (by omega) (LE_u hN (by rw [x5, y5])) x2 y2 x3 x4 (by show N1 5 + 1 = _; rw [x5, n_add1]) s1 s2 (fun j hj => (mAr_o hj).trans (t1 j hj)) (fun j hj => (mAr_o hj).trans (t2 j hj)) ?_
    rw [mAr_s, mAr_s]
    exact AgN_up hC (by rw [t1 28 (by decide), t2 28 (by decide)]; exact (cb i hiq).symm)
  have b1' : ∀ (m i : Nat) (N1 N2 : Nat → Int32) (τ1 τ2 : MS), i ≤ p → LE3 N1 N2 → N1 1 = nI a1 → N2 1 = nI a2 → N1 2 = nI b1 → N2 2 = nI b2 → N1 3 = nI p → N1 4 = nI q → N1 5 = nI i → (∀ j, τ1.1 j = σ1.1 j) → (∀ j, τ2.1 j = σ2.1 j) → (∀ j, j ≠ 51 → τ1.2.2 j = σ1.2.2 j) → (∀ j, j ≠ 51 → τ2.2.2 j = σ2.2.2 j) → AgN (τ1.2.2 51) (τ2.2.2 51) i → Pm m (fun k => x_joined k 1 N1 τ1) (fun k => x_joined k 1 N2 τ2) (KQ h1 h2 4004) := by
    intro m
    induction m using Nat.strongRecOn with
    | ind m ih =>
    intro i N1 N2 τ1 τ2 hi hN x1 y1 x2 y2 x3 x4 x5 s1 s2 t1 t2 hC
    have y3 : N2 3 = nI p := (hN 3 (by omega)).symm.trans x3
    have y5 : N2 5 = nI i := (hN 5 (by omega)).symm.trans x5
    refine Pm_suc rfl (fun k => by rw [x_joined]) (fun k => by rw [x_joined]) (fun k1 hk1 => ?_)
    rw [x1, y1, x3, y3, x5, y5, show nI a1 + 4 = nI (a1 + 4) from n_add (q := 4) (by omega), show nI a2 + 4 = nI (a2 + 4) from n_add (q := 4) (by omega), n_add (p := a1 + 4) (by omega), n_add (p := a2 + 4) (by omega), n_cl (p := a1 + 4 + i) (by omega), n_cl (p := a2 + 4 + i) (by omega), n_cl (p := i) (by omega)]
    refine Pm_ite Iff.rfl (fun y _ => ?_) (fun y _ => ?_)
    · have y := (n_le (by omega) (by omega)).mp y
      have e : i = p := by omega
      rw [e] at hC
      refine Pm_suc rfl (fun k => by rw [x_joined]) (fun k => by rw [x_joined]) (fun k2 hk2 => ?_)
      exact b4 k2 0 _ _ _ _ (Nat.zero_le _) (LE_u hN rfl) x2 y2 x3 x4 rfl s1 s2 t1 t2 hC
    have hip : i < p := by
      by_cases e : p ≤ i
      · exact absurd ((n_le (by omega) (by omega)).mpr e) y
      · omega
    refine Pm_chk (fun _ _ => ?_)
    refine Pm_chk (fun _ _ => ?_)
    show Pm k1 (fun k => x_joined k 2 N1 (mAr τ1 51 i (τ1.2.2 28 (a1 + 4 + i)))) (fun k => x_joined k 2 N2 (mAr τ2 51 i (τ2.2.2 28 (a2 + 4 + i)))) _
    refine Pm_suc rfl (fun k => by rw [x_joined]) (fun k => by rw [x_joined]) (fun k2 hk2 => ?_)
    refine ih k2 (by omega) (i + 1) _ _ _ _ (by omega) (LE_u hN (by rw [x5, y5])) x1 y1 x2 y2 x3 x4 (by show N1 5 + 1 = _; rw [x5, n_add1]) s1 s2 (fun j hj => (mAr_o hj).trans (t1 j hj)) (fun j hj => (mAr_o hj).trans (t2 j hj)) ?_
    rw [mAr_s, mAr_s]
    exact AgN_up hC (by rw [t1 28 (by decide), t2 28 (by decide)]; exact (ca i hip).symm)
  refine Pm_suc rfl (fun k => by rw [x_joined]) (fun k => by rw [x_joined]) (fun m1 _ => ?_)
  rw [d1, d2, f1, f2, n_add1, n_add1, n_add1, n_add1, n_cl (p := a1 + 1) (by omega), n_cl (p := a2 + 1) (by omega), n_cl (p := b1 + 1) (by omega), n_cl (p := b2 + 1) (by omega), o11, o12, p11, p12]
  refine Pm_chk (fun _ _ => ?_)
  refine Pm_chk (fun _ _ => ?_)
  exact b1' m1 0 _ _ _ _ (Nat.zero_le _) (LE_u (LE_u (LE_u hL rfl) rfl) rfl) d1 f1 d2 f2 rfl rfl rfl (fun _ => rfl) (fun _ => rfl) (fun _ _ => rfl) (fun _ _ => rfl) (fun i hi => absurd hi (Nat.not_lt_zero i))
theorem k_plus {f a1 a2 b1 b2 : Nat} (hS1 : HS g1 l1 B1 h1 σ1) (hS2 : HS g2 l2 B2 h2 σ2) (e1 : σ1.1 56 = 0) (e2 : σ2.1 56 = 0) (t1 : σ1.1 59 = nI f) (t2 : σ2.1 59 = nI f) (hf : f ≤ 177000) (hr1 : h1 + 8004 ≤ B1 + 870000) (hr2 : h2 + 8004 ≤ B2 + 870000) (ha1 : a1 < 3 ∨ g1 a1) (ha2 : a2 < 3 ∨ g2 a2) (va : EVb (σ1.2.2 28) (σ2.2.2 28) a1 a2) (hb1 : b1 < 3 ∨ g1 b1) (hb2 : b2 < 3 ∨ g2 b2) (vb : EVb (σ1.2.2 28) (σ2.2.2 28) b1 b2) {L1 L2 : Nat → Int32} (d1 : L1 1 = nI a1) (d2 : L1 2 = nI b1) (f1 : L2 1 = nI a2) (f2 : L2 2 = nI b2) (hL : LE3 L1 L2) : Pm n (fun k => x_plus k 0 L1 σ1) (fun k => x_plus k 0 L2 σ2) (KQ h1 h2 8004) := by
  have ka := kdN_6 hS1 ha1
  have kb := kdN_6 hS1 hb1
  have b1' : ∀ (m : Nat) (N1 N2 : Nat → Int32), Pm m (fun k => x_plus k 1 N1 σ1) (fun k => x_plus k 1 N2 σ2) (KQ h1 h2 8004) := fun m N1 N2 => by
    refine Pm_suc rfl (fun k => by rw [x_plus]) (fun k => by rw [x_plus]) (fun m1 _ => ?_)
    exact Pm_ob (k_wrongKind hS1 hS2 _ _) (fun r1 r2 hr => Pm_some hr)
  -- rows
  have b4 : kdN (σ1.2.2 28) b1 = kdN (σ1.2.2 28) a1 → 5 ≤ kdN (σ1.2.2 28) a1 → ∀ (m : Nat) (N1 N2 : Nat → Int32), LE3 N1 N2 → N1 1 = nI a1 → N1 2 = nI b1 → N2 1 = nI a2 → N2 2 = nI b2 → Pm m (fun k => x_plus k 4 N1 σ1) (fun k => x_plus k 4 N2 σ2) (KQ h1 h2 8004) := by
    intro hkk h5 m N1 N2 hN x1 x2 y1 y2
    obtain ⟨k, p, hA⟩ := OE_of hS1 hS2 (kdN_ge hS1 ha1 (by omega)) ha2 va
    obtain ⟨k', q, hB⟩ := OE_of hS1 hS2 (kdN_ge hS1 hb1 (by omega)) hb2 vb
    obtain ⟨_, _, _, _, _, o6, o7, _, _, _, o11, o12, o13, o14, _, o16, _⟩ := hA
    obtain ⟨_, _, _, _, _, p6, p7, _, _, _, p11, p12, p13, p14, _, p16, _⟩ := hB
    have ca := o16 (by omega)
    have cb := p16 (by omega)
    have fin : ∀ (m' w : Nat) (M1 M2 : Nat → Int32) (τ1 τ2 : MS), w ≤ 7992 → LE3 M1 M2 → M1 4 = nI f → KPu g1 g2 f w σ1 σ2 τ1 τ2 → Pm m' (fun k => x_plus k 8 M1 τ1) (fun k => x_plus k 8 M2 τ2) (KQ h1 h2 8004) := by
      intro m' w M1 M2 τ1 τ2 hw hM z4 hK
      have w4 : M2 4 = nI f := (hM 4 (by omega)).symm.trans z4
      have b10 : ∀ (m2 : Nat) (O1 O2 : Nat → Int32) (r1 r2 : Int32 × MS), O1 100 = r1.1 → O2 100 = r2.1 → KQ h1 h2 8004 r1 r2 → Pm m2 (fun k => x_plus k 10 O1 r1.2) (fun k => x_plus k 10 O2 r2.2) (KQ h1 h2 8004) := fun m2 O1 O2 r1 r2 u1 u2 hr => by
        refine Pm_suc rfl (fun k => by rw [x_plus]) (fun k => by rw [x_plus]) (fun m3 _ => ?_)
        rw [u1, u2]
        exact Pm_some hr
      refine Pm_suc rfl (fun k => by rw [x_plus]) (fun k => by rw [x_plus]) (fun k1 hk1 => ?_)
      refine Pm_ite (by rw [hM 3 (by omega)]) (fun _ _ => ?_) (fun _ _ => ?_)
      · exact Pm_ob (k_setP hK hS1 hS2 e1 e2 (by omega) (by omega) (by omega) (by omega) (by exact z4) (by exact w4)) (fun r1 r2 hr => b10 k1 _ _ r1 r2 rfl rfl (KQ_mo hr (by omega)))
      · refine Pm_suc rfl (fun k => by rw [x_plus]) (fun k => by rw [x_plus]) (fun k2 hk2 => ?_)
        exact Pm_ob (k_tupP hK hS1 hS2 e1 e2 (by omega) (by omega) (by omega) (by exact z4) (by exact w4)) (fun r1 r2 hr => b10 k2 _ _ r1 r2 rfl rfl (KQ_mo hr (by omega)))
    have b7 : ∀ (m' i : Nat) (M1 M2 : Nat → Int32) (τ1 τ2 : MS), i ≤ q → LE3 M1 M2 → M1 2 = nI b1 → M2 2 = nI b2 → M1 4 = nI f → M1 5 = nI i → KPu g1 g2 f (p + i) σ1 σ2 τ1 τ2 → Pm m' (fun k => x_plus k 7 M1 τ1) (fun k => x_plus k 7 M2 τ2) (KQ h1 h2 8004) := by
      intro m'
      induction m' using Nat.strongRecOn with
      | ind m' ih =>
      intro i M1 M2 τ1 τ2 hi hM z2 w2 z4 z5 hK
      have w5 : M2 5 = nI i := (hM 5 (by omega)).symm.trans z5
      have a28 : τ1.2.2 28 = σ1.2.2 28 := hK.1.2.1 28 (by decide)
      have b28 : τ2.2.2 28 = σ2.2.2 28 := hK.2.1.2.1 28 (by decide)
      refine Pm_suc rfl (fun k => by rw [x_plus]) (fun k => by rw [x_plus]) (fun k1 hk1 => ?_)
      rw [z2, w2, z5, w5, n_add1 b1, n_add1 b2, n_cl (p := b1 + 1) (by omega), n_cl (p := b2 + 1) (by omega), a28, b28, p11, p12, show nI b1 + 4 = nI (b1 + 4) from n_add (q := 4) (by omega), show nI b2 + 4 = nI (b2 + 4) from n_add (q := 4) (by omega), n_add (p := b1 + 4) (by omega), n_add (p := b2 + 4) (by omega), n_cl (p := b1 + 4 + i) (by omega), n_cl (p := b2 + 4 + i) (by omega)]
      refine Pm_chk (fun _ _ => ?_)
      refine Pm_ite Iff.rfl (fun _ _ => fin k1 (p + i) _ _ _ _ (by omega) hM z4 hK) (fun y _ => ?_)
      have hiq : i < q := by
        by_cases e : q ≤ i
        · exact absurd ((n_le (by omega) (by omega)).mpr e) y
        · omega
      refine Pm_chk (fun _ _ => ?_)
      exact Pm_ob (k_push hK (by omega) (cb i hiq) rfl rfl) (fun r1 r2 hr => ih k1 (by omega) (i + 1) _ _ _ _ (by omega) (LE_u hM rfl) z2 w2 z4 (by show nI i + 1 = _; rw [n_add1]) hr)
    have b5 : ∀ (m' i : Nat) (M1 M2 : Nat → Int32) (τ1 τ2 : MS), i ≤ p → LE3 M1 M2 → M1 1 = nI a1 → M2 1 = nI a2 → M1 2 = nI b1 → M2 2 = nI b2 → M1 4 = nI f → M1 5 = nI i → KPu g1 g2 f i σ1 σ2 τ1 τ2 → Pm m' (fun k => x_plus k 5 M1 τ1) (fun k => x_plus k 5 M2 τ2) (KQ h1 h2 8004) := by
      intro m'
      induction m' using Nat.strongRecOn with
      | ind m' ih =>
      intro i M1 M2 τ1 τ2 hi hM z1 w1 z2 w2 z4 z5 hK
      have w5 : M2 5 = nI i := (hM 5 (by omega)).symm.trans z5
      have a28 : τ1.2.2 28 = σ1.2.2 28 := hK.1.2.1 28 (by decide)
      have b28 : τ2.2.2 28 = σ2.2.2 28 := hK.2.1.2.1 28 (by decide)
      refine Pm_suc rfl (fun k => by rw [x_plus]) (fun k => by rw [x_plus]) (fun k1 hk1 => ?_)
      rw [z1, w1, z5, w5, n_add1 a1, n_add1 a2, n_cl (p := a1 + 1) (by omega), n_cl (p := a2 + 1) (by omega), a28, b28, o11, o12, show nI a1 + 4 = nI (a1 + 4) from n_add (q := 4) (by omega), show nI a2 + 4 = nI (a2 + 4) from n_add (q := 4) (by omega), n_add (p := a1 + 4) (by omega), n_add (p := a2 + 4) (by omega), n_cl (p := a1 + 4 + i) (by omega), n_cl (p := a2 + 4 + i) (by omega)]
      refine Pm_chk (fun _ _ => ?_)
      refine Pm_ite Iff.rfl (fun y _ => ?_) (fun y _ => ?_)
      · have y := (n_le (by omega) (by omega)).mp y
        have e : i = p := by omega
        rw [e] at hK
        refine Pm_suc rfl (fun k => by rw [x_plus]) (fun k => by rw [x_plus]) (fun k2 hk2 => ?_)
        exact b7 k2 0 _ _ _ _ (Nat.zero_le _) (LE_u hM rfl) z2 w2 z4 rfl hK
      have hip : i < p := by
        by_cases e : p ≤ i
        · exact absurd ((n_le (by omega) (by omega)).mpr e) y
        · omega
      refine Pm_chk (fun _ _ => ?_)
      exact Pm_ob (k_push hK (by omega) (ca i hip) rfl rfl) (fun r1 r2 hr => ih k1 (by omega) (i + 1) _ _ _ _ (by omega) (LE_u hM rfl) z1 w1 z2 w2 z4 (by show nI i + 1 = _; rw [n_add1]) hr)
    refine Pm_suc rfl (fun k => by rw [x_plus]) (fun k => by rw [x_plus]) (fun m1 _ => ?_)
    rw [t1, t2]
    exact b5 m1 0 _ _ _ _ (Nat.zero_le _) (LE_u (LE_u hN rfl) rfl) x1 y1 x2 y2 rfl rfl (KPu_0 t1 t2)
  have b2 : kdN (σ1.2.2 28) b1 = kdN (σ1.2.2 28) a1 → (kdN (σ1.2.2 28) a1 = 2 ∨ 4 ≤ kdN (σ1.2.2 28) a1) → ∀ (m : Nat) (N1 N2 : Nat → Int32), LE3 N1 N2 → N1 1 = nI a1 → N1 2 = nI b1 → N2 1 = nI a2 → N2 2 = nI b2 → N1 3 = nI (kdN (σ1.2.2 28) a1) → Pm m (fun k => x_plus k 2 N1 σ1) (fun k => x_plus k 2 N2 σ2) (KQ h1 h2 8004) := by
    intro hkk hor m N1 N2 hN x1 x2 y1 y2 x3
    have y3 : N2 3 = nI (kdN (σ1.2.2 28) a1) := (hN 3 (by omega)).symm.trans x3
    refine Pm_suc rfl (fun k => by rw [x_plus]) (fun k => by rw [x_plus]) (fun m1 _ => ?_)
    rw [x3, y3]
    refine Pm_ite Iff.rfl (fun z _ => ?_) (fun z _ => ?_)
    · have z := (n_eq (q := 2) (by omega) (by decide)).mp z
      obtain ⟨p, hA⟩ := WhE_of hS1 hS2 ha1 ha2 va z
      obtain ⟨q, hB⟩ := WhE_of hS1 hS2 hb1 hb2 vb (by omega)
      refine Pm_ob (k_add hS1 hS2 e1 e2 (by omega) (by omega) hA hB (by exact x1) (by exact x2) (by exact y1) (by exact y2) (fun i hi => ?_)) (fun r1 r2 hr => Pm_some (KQ_mo hr (by omega)))
      by_cases e : i = 3
      · rw [e]; rfl
      · rw [upd_other e, upd_other (by omega), upd_other (by omega), upd_other e, upd_other (by omega), upd_other (by omega)]
    · refine Pm_suc rfl (fun k => by rw [x_plus]) (fun k => by rw [x_plus]) (fun m2 _ => ?_)
      rw [x3, y3]
      refine Pm_ite Iff.rfl (fun z4 _ => ?_) (fun z4 _ => ?_)
      · have z4 := (n_eq (q := 4) (by omega) (by decide)).mp z4
        obtain ⟨k, p, hA⟩ := OE_of hS1 hS2 (kdN_ge hS1 ha1 (by omega)) ha2 va
        obtain ⟨k', q, hB⟩ := OE_of hS1 hS2 (kdN_ge hS1 hb1 (by omega)) hb2 vb
        have ek : k = 4 := by have := hA.2.2.2.2.2.2.1; omega
        have ek' : k' = 4 := by have := hB.2.2.2.2.2.2.1; omega
        subst ek
        subst ek'
        refine Pm_ob (k_joined hS1 hS2 e1 e2 (by omega) (by omega) hA hB (by exact x1) (by exact x2) (by exact y1) (by exact y2) (fun i hi => ?_)) (fun r1 r2 hr => Pm_some (KQ_mo hr (by omega)))
        rw [upd_other (by omega), upd_other (by omega), upd_other (by omega), upd_other (by omega)]
      · have n2 : ¬ kdN (σ1.2.2 28) a1 = 2 := fun e => z (by rw [e]; rfl)
        have n4 : ¬ kdN (σ1.2.2 28) a1 = 4 := fun e => z4 (by rw [e]; rfl)
        exact b4 hkk (by omega) m2 _ _ hN x1 x2 y1 y2
  refine Pm_suc rfl (fun k => by rw [x_plus]) (fun k => by rw [x_plus]) (fun m1 _ => ?_)
  refine Pm_ob (Pm_t2 (s_kind hS1 ha1 (by exact d1)) (fun k => f_kind k _ _ _) (s_kind hS2 ha2 (by exact f1)) (fun k => f_kind k _ _ _)) (fun r1 r2 hr => ?_)
  rw [hr.1, hr.2]
  refine Pm_ob (Pm_t2 (s_kind hS1 hb1 (by exact d2)) (fun k => f_kind k _ _ _) (s_kind hS2 hb2 (by exact f2)) (fun k => f_kind k _ _ _)) (fun s1 s2 hs => ?_)
  rw [hs.1, hs.2, (EVb_sz va).2.2, (EVb_sz vb).2.2]
  have hL3 : LE3 (upd L1 3 (nI (kdN (σ1.2.2 28) a1))) (upd L2 3 (nI (kdN (σ1.2.2 28) a1))) := LE_u hL rfl
  refine Pm_ite Iff.rfl (fun z _ => ?_) (fun _ _ => b1' m1 _ _)
  have z := (n_eq (by omega) (by omega)).mp z
  refine Pm_ite Iff.rfl (fun q _ => ?_) (fun q _ => ?_)
  · have q := (n_eq (q := 2) (by omega) (by decide)).mp q
    exact b2 z.symm (Or.inl q) m1 _ _ hL3 d1 d2 f1 f2 rfl
  refine Pm_ite Iff.rfl (fun q _ => ?_) (fun _ _ => b1' m1 _ _)
  have q := (n_le (p := 4) (by decide) (by omega)).mp q
  exact b2 z.symm (Or.inr q) m1 _ _ hL3 d1 d2 f1 f2 rfl
end KJO
end JnS170
section JnS171
/-! Two runs side by side (reference): in, repeat. -/
section KIN
variable {g1 g2 : Nat → Prop} {l1 l2 : List Nat} {B1 h1 B2 h2 n : Nat} {σ1 σ2 : MS}
theorem k_truth {K : Nat} (hS1 : HS g1 l1 B1 h1 σ1) (hS2 : HS g2 l2 B2 h2 σ2) (e : σ1.1 56 = 0 ↔ σ2.1 56 = 0) {L1 L2 : Nat → Int32} (hL : L1 1 = L2 1) : Pm n (fun k => x_truth k 0 L1 σ1) (fun k => x_truth k 0 L2 σ2) (fun r1 r2 => KQ h1 h2 K r1 r2 ∧ r1.2 = σ1 ∧ r2.2 = σ2 ∧ r1.1 = r2.1) := by
  have t1 := KQ_same (K := K) hS1 hS2 e (a := 1) (b := 1) (by decide) (by decide) (EVb_0 (by decide))
  have t2 := KQ_same (K := K) hS1 hS2 e (a := 2) (b := 2) (by decide) (by decide) (EVb_0 (by decide))
  refine Pm_suc rfl (fun k => by rw [x_truth]) (fun k => by rw [x_truth]) (fun m1 _ => ?_)
  refine Pm_ite (by rw [hL]) (fun _ _ => ?_) (fun _ _ => ?_)
  · refine Pm_suc rfl (fun k => by rw [x_truth]) (fun k => by rw [x_truth]) (fun m2 _ => ?_)
    refine Pm_suc rfl (fun k => by rw [x_truth]) (fun k => by rw [x_truth]) (fun m3 _ => ?_)
    exact Pm_some ⟨t1, rfl, rfl, rfl⟩
  · refine Pm_suc rfl (fun k => by rw [x_truth]) (fun k => by rw [x_truth]) (fun m2 _ => ?_)
    exact Pm_some ⟨t2, rfl, rfl, rfl⟩
theorem k_isIn {K x1 x2 b1 b2 : Nat} (hS1 : HS g1 l1 B1 h1 σ1) (hS2 : HS g2 l2 B2 h2 σ2) (e : σ1.1 56 = 0 ↔ σ2.1 56 = 0) (hx1 : x1 < 3 ∨ g1 x1) (hx2 : x2 < 3 ∨ g2 x2) (vx : EVb (σ1.2.2 28) (σ2.2.2 28) x1 x2) (hb1 : b1 < 3 ∨ g1 b1) (hb2 : b2 < 3 ∨ g2 b2) (vb : EVb (σ1.2.2 28) (σ2.2.2 28) b1 b2) {L1 L2 : Nat → Int32} (d1 : L1 1 = nI x1) (d2 : L1 2 = nI b1) (f1 : L2 1 = nI x2) (f2 : L2 2 = nI b2) (hL : LE3 L1 L2) : Pm n (fun k => x_isIn k 0 L1 σ1) (fun k => x_isIn k 0 L2 σ2) (fun r1 r2 => KQ h1 h2 K r1 r2 ∧ (r1.2.1 56 = 0 → r1.1 = r2.1)) := by
  have kb := kdN_6 hS1 hb1
  have kx := kdN_6 hS1 hx1
  have bx1 := HS_vb hS1 hx1
  have bx2 := HS_vb hS2 hx2
  have hvx : VC g1 g2 (σ1.2.2 28) (σ2.2.2 28) (nI x1) (nI x2) := ⟨x1, x2, rfl, hx1, rfl, hx2, vx, bx1, bx2⟩
  have i0 : nI x1 = 0 ↔ nI x2 = 0 := VC_0 hvx
  have tr : ∀ (m : Nat) (N1 N2 : Nat → Int32), N1 1 = N2 1 → Pm m (fun k => x_truth k 0 N1 σ1) (fun k => x_truth k 0 N2 σ2) (fun r1 r2 => KQ h1 h2 K r1 r2 ∧ (r1.2.1 56 = 0 → r1.1 = r2.1)) := fun m N1 N2 h => Pm_mono (k_truth hS1 hS2 e h) (fun r1 r2 hr => ⟨hr.1, fun _ => hr.2.2.2⟩)
  have c2 : ∀ (m : Nat) (N1 N2 : Nat → Int32), N1 100 = N2 100 → Pm m (fun k => x_isIn k 2 N1 σ1) (fun k => x_isIn k 2 N2 σ2) (fun r1 r2 => KQ h1 h2 K r1 r2 ∧ (r1.2.1 56 = 0 → r1.1 = r2.1)) := fun m N1 N2 h => by
    refine Pm_suc rfl (fun k => by rw [x_isIn]) (fun k => by rw [x_isIn]) (fun m1 _ => ?_)
    exact Pm_ob (tr m1 _ _ (by exact h)) (fun r1 r2 hr => Pm_some hr)
  have b1' : ∀ (m : Nat) (N1 N2 : Nat → Int32), Pm m (fun k => x_isIn k 1 N1 σ1) (fun k => x_isIn k 1 N2 σ2) (fun r1 r2 => KQ h1 h2 K r1 r2 ∧ (r1.2.1 56 = 0 → r1.1 = r2.1)) := fun m N1 N2 => by
    refine Pm_suc rfl (fun k => by rw [x_isIn]) (fun k => by rw [x_isIn]) (fun m1 _ => ?_)
    exact c2 m1 _ _ rfl
  have b10 : ∀ (m : Nat) (N1 N2 : Nat → Int32), Pm m (fun k => x_isIn k 10 N1 σ1) (fun k => x_isIn k 10 N2 σ2) (fun r1 r2 => KQ h1 h2 K r1 r2 ∧ (r1.2.1 56 = 0 → r1.1 = r2.1)) := fun m N1 N2 => by
    refine Pm_suc rfl (fun k => by rw [x_isIn]) (fun k => by rw [x_isIn]) (fun m1 _ => ?_)
    refine Pm_ob (Pm_t2 (s_wrongKind _) (fun k => f_wrongKind k _ _ _) (s_wrongKind _) (fun k => f_wrongKind k _ _ _)) (fun r1 r2 hr => ?_)
    rw [hr.1, hr.2]
    exact Pm_some ⟨k_er (by decide) hS1 hS2, fun z => absurd z (mEr_e (by decide))⟩
  -- tuples
  have b4 : kdN (σ1.2.2 28) b1 = 5 → ∀ (m : Nat) (N1 N2 : Nat → Int32), LE3 N1 N2 → N1 1 = nI x1 → N1 2 = nI b1 → N2 1 = nI x2 → N2 2 = nI b2 → N1 5 = nI 0 → Pm m (fun k => x_isIn k 4 N1 σ1) (fun k => x_isIn k 4 N2 σ2) (fun r1 r2 => KQ h1 h2 K r1 r2 ∧ (r1.2.1 56 = 0 → r1.1 = r2.1)) := by
    intro hk5
    obtain ⟨k, p, hB⟩ := OE_of hS1 hS2 (kdN_ge hS1 hb1 (by omega)) hb2 vb
    obtain ⟨_, _, _, _, _, o6, o7, _, _, _, o11, o12, o13, o14, _, o16, _⟩ := hB
    have cb := o16 (by omega)
    have lp : ∀ (m i : Nat) (N1 N2 : Nat → Int32), i ≤ p → LE3 N1 N2 → N1 1 = nI x1 → N1 2 = nI b1 → N2 1 = nI x2 → N2 2 = nI b2 → N1 5 = nI i → Pm m (fun k => x_isIn k 4 N1 σ1) (fun k => x_isIn k 4 N2 σ2) (fun r1 r2 => KQ h1 h2 K r1 r2 ∧ (r1.2.1 56 = 0 → r1.1 = r2.1)) := by
      intro m
      induction m using Nat.strongRecOn with
      | ind m ih =>
      intro i N1 N2 hi hN z1 z2 w1 w2 z5
      have w5 : N2 5 = nI i := (hN 5 (by omega)).symm.trans z5
      have b8 : ∀ m', Pm m' (fun k => x_isIn k 8 N1 σ1) (fun k => x_isIn k 8 N2 σ2) (fun r1 r2 => KQ h1 h2 K r1 r2 ∧ (r1.2.1 56 = 0 → r1.1 = r2.1)) := fun m' => by
        refine Pm_suc rfl (fun k => by rw [x_isIn]) (fun k => by rw [x_isIn]) (fun m2 _ => ?_)
        exact Pm_ob (tr m2 _ _ (by exact hN 4 (by omega))) (fun r1 r2 hr => Pm_some hr)
      refine Pm_suc rfl (fun k => by rw [x_isIn]) (fun k => by rw [x_isIn]) (fun k1 hk1 => ?_)
      rw [z1, w1, z2, w2, z5, w5, n_add1 b1, n_add1 b2, n_cl (p := b1 + 1) (by omega), n_cl (p := b2 + 1) (by omega), o11, o12, show nI b1 + 4 = nI (b1 + 4) from n_add (q := 4) (by omega), show nI b2 + 4 = nI (b2 + 4) from n_add (q := 4) (by omega), n_add (p := b1 + 4) (by omega), n_add (p := b2 + 4) (by omega), n_cl (p := b1 + 4 + i) (by omega), n_cl (p := b2 + 4 + i) (by omega)]
      refine Pm_chk (fun _ _ => ?_)
      refine Pm_ite Iff.rfl (fun _ _ => b8 k1) (fun y _ => ?_)
      have hip : i < p := by
        by_cases e : p ≤ i
        · exact absurd ((n_le (by omega) (by omega)).mpr e) y
        · omega
      refine Pm_ite i0 (fun _ _ => b8 k1) (fun _ _ => ?_)
      have b7 : ∀ (m' : Nat) (M1 M2 : Nat → Int32), m' < m → LE3 M1 M2 → M1 1 = nI x1 → M1 2 = nI b1 → M2 1 = nI x2 → M2 2 = nI b2 → M1 5 = nI i → Pm m' (fun k => x_isIn k 7 M1 σ1) (fun k => x_isIn k 7 M2 σ2) (fun r1 r2 => KQ h1 h2 K r1 r2 ∧ (r1.2.1 56 = 0 → r1.1 = r2.1)) := by
        intro m' M1 M2 hm' hM q1 q2 q3 q4 q5
        refine Pm_suc rfl (fun k => by rw [x_isIn]) (fun k => by rw [x_isIn]) (fun k2 hk2 => ?_)
        exact ih k2 (by omega) (i + 1) _ _ (by omega) (LE_u (LE_u hM (hM 100 (by omega))) (by rw [hM 5 (by omega)])) q1 q2 q3 q4 (by show M1 5 + 1 = _; rw [q5, n_add1])
      have b5 : ∀ m', m' < m → Pm m' (fun k => x_isIn k 5 N1 σ1) (fun k => x_isIn k 5 N2 σ2) (fun r1 r2 => KQ h1 h2 K r1 r2 ∧ (r1.2.1 56 = 0 → r1.1 = r2.1)) := fun m' hm' => by
        refine Pm_suc rfl (fun k => by rw [x_isIn]) (fun k => by rw [x_isIn]) (fun k2 hk2 => ?_)
        exact b7 k2 _ _ (by omega) (LE_u hN rfl) z1 z2 w1 w2 z5
      have b6 : ∀ m', m' < m → Pm m' (fun k => x_isIn k 6 N1 σ1) (fun k => x_isIn k 6 N2 σ2) (fun r1 r2 => KQ h1 h2 K r1 r2 ∧ (r1.2.1 56 = 0 → r1.1 = r2.1)) := fun m' hm' => by
        refine Pm_suc rfl (fun k => by rw [x_isIn]) (fun k => by rw [x_isIn]) (fun k2 hk2 => ?_)
        exact b7 k2 _ _ (by omega) (LE_u hN rfl) z1 z2 w1 w2 z5
      refine Pm_ite (by rw [hN 4 (by omega)]) (fun _ _ => ?_) (fun _ _ => b5 k1 (by omega))
      refine Pm_chk (fun _ _ => ?_)
      obtain ⟨u, v, u1, u2, u3, u4, u5, u6, u7⟩ := cb i hip
      rw [u1, u3]
      refine Pm_ob (k_compare hS1 hS2 u2 hx1 u4 hx2 u5 vx rfl rfl rfl rfl) (fun r1 r2 hr => ?_)
      rw [hr.1, hr.2.1, hr.2.2]
      exact Pm_ite Iff.rfl (fun _ _ => b5 k1 (by omega)) (fun _ _ => b6 k1 (by omega))
    exact fun m N1 N2 hN z1 z2 w1 w2 z5 => lp m 0 N1 N2 (Nat.zero_le _) hN z1 z2 w1 w2 z5
  -- strings
  have b12 : kdN (σ1.2.2 28) b1 = 4 → kdN (σ1.2.2 28) x1 = 4 → ∀ (m : Nat) (N1 N2 : Nat → Int32), LE3 N1 N2 → N1 1 = nI x1 → N1 2 = nI b1 → N2 1 = nI x2 → N2 2 = nI b2 → N1 5 = nI 0 → Pm m (fun k => x_isIn k 12 N1 σ1) (fun k => x_isIn k 12 N2 σ2) (fun r1 r2 => KQ h1 h2 K r1 r2 ∧ (r1.2.1 56 = 0 → r1.1 = r2.1)) := by
    intro hk4 hx4
    obtain ⟨k, p, hB⟩ := OE_of hS1 hS2 (kdN_ge hS1 hb1 (by omega)) hb2 vb
    obtain ⟨_, _, _, _, _, o6, o7, _, _, _, o11, o12, o13, o14, _, _, o17⟩ := hB
    obtain ⟨k', q, hX⟩ := OE_of hS1 hS2 (kdN_ge hS1 hx1 (by omega)) hx2 vx
    obtain ⟨_, _, _, _, _, p6, p7, _, _, _, p11, p12, p13, p14, _, _, p17⟩ := hX
    have cb := o17 (by omega)
    have cx := p17 (by omega)
    have lp : ∀ (m i : Nat) (N1 N2 : Nat → Int32), i ≤ p + 1 → LE3 N1 N2 → N1 1 = nI x1 → N1 2 = nI b1 → N2 1 = nI x2 → N2 2 = nI b2 → N1 5 = nI i → Pm m (fun k => x_isIn k 12 N1 σ1) (fun k => x_isIn k 12 N2 σ2) (fun r1 r2 => KQ h1 h2 K r1 r2 ∧ (r1.2.1 56 = 0 → r1.1 = r2.1)) := by
      intro m
      induction m using Nat.strongRecOn with
      | ind m ih =>
      intro i N1 N2 hi hN z1 z2 w1 w2 z5
      have w5 : N2 5 = nI i := (hN 5 (by omega)).symm.trans z5
      have b17 : ∀ m', Pm m' (fun k => x_isIn k 17 N1 σ1) (fun k => x_isIn k 17 N2 σ2) (fun r1 r2 => KQ h1 h2 K r1 r2 ∧ (r1.2.1 56 = 0 → r1.1 = r2.1)) := fun m' => by
        refine Pm_suc rfl (fun k => by rw [x_isIn]) (fun k => by rw [x_isIn]) (fun m2 _ => ?_)
        exact Pm_ob (tr m2 _ _ (by exact hN 4 (by omega))) (fun r1 r2 hr => Pm_some hr)
      refine Pm_suc rfl (fun k => by rw [x_isIn]) (fun k => by rw [x_isIn]) (fun k1 hk1 => ?_)
      rw [z1, w1, z2, w2, z5, w5, n_add1 b1, n_add1 b2, n_add1 x1, n_add1 x2, n_cl (p := b1 + 1) (by omega), n_cl (p := b2 + 1) (by omega), n_cl (p := x1 + 1) (by omega), n_cl (p := x2 + 1) (by omega), o11, o12, p11, p12, n_add (p := i) (q := q) (by omega)]
      refine Pm_chk (fun _ _ => ?_)
      refine Pm_chk (fun _ _ => ?_)
      refine Pm_ite Iff.rfl (fun _ _ => b17 k1) (fun y _ => ?_)
      have hiq : i + q ≤ p := by
        by_cases e : p < i + q
        · exact absurd ((n_lt (by omega) (by omega)).mpr e) y
        · omega
      refine Pm_ite (by rw [hN 4 (by omega)]) (fun _ _ => ?_) (fun _ _ => b17 k1)
      have b13 : ∀ (m' j : Nat) (M1 M2 : Nat → Int32), m' < m → j ≤ q → LE3 M1 M2 → M1 1 = nI x1 → M1 2 = nI b1 → M2 1 = nI x2 → M2 2 = nI b2 → M1 5 = nI i → M1 7 = nI j → Pm m' (fun k => x_isIn k 13 M1 σ1) (fun k => x_isIn k 13 M2 σ2) (fun r1 r2 => KQ h1 h2 K r1 r2 ∧ (r1.2.1 56 = 0 → r1.1 = r2.1)) := by
        intro m'
        induction m' using Nat.strongRecOn with
        | ind m' ihj =>
        intro j M1 M2 hm' hj hM q1 q2 q3 q4 q5 q7
        have v5 : M2 5 = nI i := (hM 5 (by omega)).symm.trans q5
        have v7 : M2 7 = nI j := (hM 7 (by omega)).symm.trans q7
        have b16 : ∀ m2, m2 < m' → Pm m2 (fun k => x_isIn k 16 M1 σ1) (fun k => x_isIn k 16 M2 σ2) (fun r1 r2 => KQ h1 h2 K r1 r2 ∧ (r1.2.1 56 = 0 → r1.1 = r2.1)) := fun m2 hm2 => by
          refine Pm_suc rfl (fun k => by rw [x_isIn]) (fun k => by rw [x_isIn]) (fun k3 hk3 => ?_)
          exact ih k3 (by omega) (i + 1) _ _ (by omega) (LE_u (LE_u hM (hM 6 (by omega))) (by rw [q5, v5])) q1 q2 q3 q4 (by show M1 5 + 1 = _; rw [q5, n_add1])
        refine Pm_suc rfl (fun k => by rw [x_isIn]) (fun k => by rw [x_isIn]) (fun k2 hk2 => ?_)
        rw [q1, q3, q2, q4, q5, v5, q7, v7, n_add1 x1, n_add1 x2, n_cl (p := x1 + 1) (by omega), n_cl (p := x2 + 1) (by omega), p11, p12, show nI b1 + 4 = nI (b1 + 4) from n_add (q := 4) (by omega), show nI b2 + 4 = nI (b2 + 4) from n_add (q := 4) (by omega), show nI x1 + 4 = nI (x1 + 4) from n_add (q := 4) (by omega), show nI x2 + 4 = nI (x2 + 4) from n_add (q := 4) (by omega), n_add (p := b1 + 4) (by omega), n_add (p := b2 + 4) (by omega), n_add (p := x1 + 4) (by omega), n_add (p := x2 + 4) (by omega), n_add (p := b1 + 4 + i) (by omega), n_add (p := b2 + 4 + i) (by omega), n_cl (p := b1 + 4 + i + j) (by omega), n_cl (p := b2 + 4 + i + j) (by omega), n_cl (p := x1 + 4 + j) (by omega), n_cl (p := x2 + 4 + j) (by omega)]
        refine Pm_chk (fun _ _ => ?_)
        refine Pm_ite Iff.rfl (fun _ _ => b16 k2 (by omega)) (fun y _ => ?_)
        have hjq : j < q := by
          by_cases e : q ≤ j
          · exact absurd ((n_le (by omega) (by omega)).mpr e) y
          · omega
        refine Pm_ite (by rw [hM 6 (by omega)]) (fun _ _ => b16 k2 (by omega)) (fun _ _ => ?_)
        refine Pm_chk (fun _ _ => ?_)
        refine Pm_chk (fun _ _ => ?_)
        have hc1 := cb (i + j) (by omega)
        have hc2 := cx j hjq
        rw [show b1 + 4 + i + j = b1 + 4 + (i + j) by omega, show b2 + 4 + i + j = b2 + 4 + (i + j) by omega, hc1, hc2]
        have b15 : ∀ (m2 : Nat) (O1 O2 : Nat → Int32), m2 < m' → LE3 O1 O2 → O1 1 = nI x1 → O1 2 = nI b1 → O2 1 = nI x2 → O2 2 = nI b2 → O1 5 = nI i → O1 7 = nI j → Pm m2 (fun k => x_isIn k 15 O1 σ1) (fun k => x_isIn k 15 O2 σ2) (fun r1 r2 => KQ h1 h2 K r1 r2 ∧ (r1.2.1 56 = 0 → r1.1 = r2.1)) := by
          intro m2 O1 O2 hm2 hO u1 u2 u3 u4 u5 u7
          refine Pm_suc rfl (fun k => by rw [x_isIn]) (fun k => by rw [x_isIn]) (fun k3 hk3 => ?_)
          exact ihj k3 (by omega) (j + 1) _ _ (by omega) (by omega) (LE_u (LE_u hO (hO 100 (by omega))) (by rw [hO 7 (by omega)])) u1 u2 u3 u4 u5 (by show O1 7 + 1 = _; rw [u7, n_add1])
        refine Pm_ite Iff.rfl (fun _ _ => b15 k2 _ _ (by omega) (LE_u hM rfl) q1 q2 q3 q4 q5 q7) (fun _ _ => ?_)
        refine Pm_suc rfl (fun k => by rw [x_isIn]) (fun k => by rw [x_isIn]) (fun k3 hk3 => ?_)
        exact b15 k3 _ _ (by omega) (LE_u hM rfl) q1 q2 q3 q4 q5 q7
      exact b13 k1 0 _ _ (by omega) (Nat.zero_le _) (LE_u (LE_u hN rfl) rfl) z1 z2 w1 w2 z5 rfl
    exact fun m N1 N2 hN z1 z2 w1 w2 z5 => lp m 0 N1 N2 (Nat.zero_le _) hN z1 z2 w1 w2 z5
  refine Pm_suc rfl (fun k => by rw [x_isIn]) (fun k => by rw [x_isIn]) (fun m1 _ => ?_)
  refine Pm_ob (Pm_t2 (s_kind hS1 hb1 (by exact d2)) (fun k => f_kind k _ _ _) (s_kind hS2 hb2 (by exact f2)) (fun k => f_kind k _ _ _)) (fun r1 r2 hr => ?_)
  rw [hr.1, hr.2, (EVb_sz vb).2.2, d1, f1]
  have hL3 : LE3 (upd L1 3 (nI (kdN (σ1.2.2 28) b1))) (upd L2 3 (nI (kdN (σ1.2.2 28) b1))) := LE_u hL rfl
  refine Pm_ite Iff.rfl (fun z _ => ?_) (fun z6 _ => ?_)
  · have z := (n_eq (q := 6) (by omega) (by decide)).mp z
    refine Pm_ite i0 (fun _ _ => b1' m1 _ _) (fun _ _ => ?_)
    obtain ⟨k, p, hB⟩ := OE_of hS1 hS2 (kdN_ge hS1 hb1 (by omega)) hb2 vb
    have ek := hB.2.2.2.2.2.2.1
    have ek2 := hB.2.2.2.2.2.2.2.1
    refine Pm_ob (Pm_un (s_has hS1 hB.1 (by omega) hx1 (by exact d2) rfl) (fun k => f_has k _ _ _) (s_has hS2 hB.2.1 (by omega) hx2 (by exact f2) rfl) (fun k => f_has k _ _ _) (k_has hS1 hS2 hB (by omega) hvx bx1 bx2 (by exact d2) rfl (by exact f2) rfl (fun i hi => by rw [upd_other (by omega), upd_other (by omega), upd_other (by omega), upd_other (by omega)]))) (fun s1 s2 hs => ?_)
    obtain ⟨q0, ⟨q1, _⟩, ⟨q2, _⟩⟩ := hs
    rw [q0, q1, q2]
    exact Pm_ite Iff.rfl (fun _ _ => b1' m1 _ _) (fun _ _ => c2 m1 _ _ rfl)
  refine Pm_suc rfl (fun k => by rw [x_isIn]) (fun k => by rw [x_isIn]) (fun m2 _ => ?_)
  rw [show upd L1 3 (nI (kdN (σ1.2.2 28) b1)) 3 = nI (kdN (σ1.2.2 28) b1) from rfl, show upd L2 3 (nI (kdN (σ1.2.2 28) b1)) 3 = nI (kdN (σ1.2.2 28) b1) from rfl]
  refine Pm_ite Iff.rfl (fun z _ => ?_) (fun z5 _ => ?_)
  · have z := (n_eq (q := 5) (by omega) (by decide)).mp z
    exact b4 z m2 _ _ (LE_u (LE_u hL3 rfl) rfl) d1 d2 f1 f2 rfl
  refine Pm_suc rfl (fun k => by rw [x_isIn]) (fun k => by rw [x_isIn]) (fun m3 _ => ?_)
  refine Pm_ite Iff.rfl (fun z _ => ?_) (fun _ _ => b10 m3 _ _)
  have z := (n_eq (q := 4) (by omega) (by decide)).mp z
  refine Pm_ob (Pm_t2 (s_kind hS1 hx1 (by exact d1)) (fun k => f_kind k _ _ _) (s_kind hS2 hx2 (by exact f1)) (fun k => f_kind k _ _ _)) (fun s1 s2 hs => ?_)
  rw [hs.1, hs.2, (EVb_sz vx).2.2]
  refine Pm_ite Iff.rfl (fun y _ => ?_) (fun _ _ => b10 m3 _ _)
  have y := (n_eq (q := 4) (by omega) (by decide)).mp y
  refine Pm_suc rfl (fun k => by rw [x_isIn]) (fun k => by rw [x_isIn]) (fun m4 _ => ?_)
  exact b12 z y m4 _ _ (LE_u (LE_u hL3 rfl) rfl) d1 d2 f1 f2 rfl
end KIN
end JnS171
section JnS172
/-! Two runs side by side (reference): repeat. -/
section KRP
variable {g1 g2 : Nat → Prop} {l1 l2 : List Nat} {B1 h1 B2 h2 n : Nat} {σ1 σ2 : MS}
theorem k_repeat {f a1 a2 k p b1 b2 q : Nat} (hS1 : HS g1 l1 B1 h1 σ1) (hS2 : HS g2 l2 B2 h2 σ2) (e1 : σ1.1 56 = 0) (e2 : σ2.1 56 = 0) (t1 : σ1.1 59 = nI f) (t2 : σ2.1 59 = nI f) (hf : f ≤ 176900) (hr1 : h1 + 8204 ≤ B1 + 870000) (hr2 : h2 + 8204 ≤ B2 + 870000) (hA : OE g1 g2 (σ1.2.2 28) (σ2.2.2 28) a1 a2 k p) (hk : k = 4 ∨ k = 5) (hB : WhE σ1 σ2 b1 b2 q) {L1 L2 : Nat → Int32} (d1 : L1 1 = nI a1) (d2 : L1 2 = nI b1) (f1 : L2 1 = nI a2) (f2 : L2 2 = nI b2) (hL : LE3 L1 L2) : Pm n (fun k => x_repeat k 0 L1 σ1) (fun k => x_repeat k 0 L2 σ2) (KQ h1 h2 8204) := by
  obtain ⟨o1, o2, _, _, o5, o6, o7, o8, o9, o10, o11, o12, o13, o14, _, o16, o17⟩ := hA
  have b5 : k = 4 → ∀ (W : Nat), W < 2147483648 → ∀ (m i : Nat) (N1 N2 : Nat → Int32) (τ1 τ2 : MS), i ≤ W → i ≤ 8200 → LE3 N1 N2 → N1 1 = nI a1 → N2 1 = nI a2 → N1 3 = nI p → N1 3 * N1 4 = nI W → N1 5 = nI i → (∀ j, τ1.1 j = σ1.1 j) → (∀ j, τ2.1 j = σ2.1 j) → (∀ j, j ≠ 51 → τ1.2.2 j = σ1.2.2 j) → (∀ j, j ≠ 51 → τ2.2.2 j = σ2.2.2 j) → AgN (τ1.2.2 51) (τ2.2.2 51) i → Pm m (fun k => x_repeat k 5 N1 τ1) (fun k => x_repeat k 5 N2 τ2) (KQ h1 h2 8204) := by
    intro hk4 W hW m
    have ca := o17 (by omega)
    induction m using Nat.strongRecOn with
    | ind m ih =>
    intro i N1 N2 τ1 τ2 hi hi2 hN x1 y1 x3 xW x5 s1 s2 u1 u2 hC
    have y3 : N2 3 = nI p := (hN 3 (by omega)).symm.trans x3
    have yW : N2 3 * N2 4 = nI W := by rw [← hN 3 (by omega), ← hN 4 (by omega)]; exact xW
    have y5 : N2 5 = nI i := (hN 5 (by omega)).symm.trans x5
    refine Pm_suc rfl (fun k => by rw [x_repeat]) (fun k => by rw [x_repeat]) (fun k1 hk1 => ?_)
    rw [xW, yW, x1, y1, x5, y5, x3, y3]
    refine Pm_ite Iff.rfl (fun y _ => ?_) (fun y _ => ?_)
    · have y := (n_le (by omega) (by omega)).mp y
      have e : i = W := by omega
      rw [e] at hC
      refine Pm_suc rfl (fun k => by rw [x_repeat]) (fun k => by rw [x_repeat]) (fun k2 hk2 => ?_)
      rw [xW, yW]
      exact Pm_ob (k_stringOf51 (f1 := 0) (f2 := 0) (w := W) (HS_c hS1 (s1 54) (s1 55) (u1 28 (by decide))) (HS_c hS2 (s2 54) (s2 55) (u2 28 (by decide))) ((s1 56).trans e1) ((s2 56).trans e2) (by omega) (by omega) (by omega) (fun _ => by omega) (fun _ => by omega) (fun i hi => by rw [Nat.zero_add]; exact hC i hi) rfl rfl rfl rfl) (fun r1 r2 hr => Pm_some (KQ_mo hr (by omega)))
    have hiW : i < W := by
      by_cases e : W ≤ i
      · exact absurd ((n_le (by omega) (by omega)).mpr e) y
      · omega
    refine Pm_ite Iff.rfl (fun z _ => fun k _ r1 r2 q1 _ => by cases q1) (fun z _ => ?_)
    have hp1 : 0 < p := by
      by_cases e : p = 0
      · exact absurd (by rw [e]; rfl) z
      · omega
    obtain ⟨j, hj, ej⟩ := n_rem (i := i) (n := p) (by omega) hp1 (by omega)
    rw [ej, show nI a1 + 4 = nI (a1 + 4) from n_add (q := 4) (by omega), show nI a2 + 4 = nI (a2 + 4) from n_add (q := 4) (by omega), n_add (p := a1 + 4) (by omega), n_add (p := a2 + 4) (by omega), n_cl (p := a1 + 4 + j) (by omega), n_cl (p := a2 + 4 + j) (by omega)]
    refine Pm_chk (fun _ _ => ?_)
    refine Pm_chk (fun c _ => ?_)
    have hi3 : i < 8200 := by
      rw [n_cl (by omega)] at c
      by_cases e : i < 8200
      · exact e
      · exact absurd (Or.inr (by omega)) c
    rw [n_cl (p := i) (by omega)]
    show Pm k1 (fun k => x_repeat k 6 N1 (mAr τ1 51 i (τ1.2.2 28 (a1 + 4 + j)))) (fun k => x_repeat k 6 N2 (mAr τ2 51 i (τ2.2.2 28 (a2 + 4 + j)))) _
    refine Pm_suc rfl (fun k => by rw [x_repeat]) (fun k => by rw [x_repeat]) (fun k2 hk2 => ?_)
    refine ih k2 (by omega) (i + 1) _ _ _ _ (by omega) (by omega) (LE_u hN (by rw [x5, y5])) x1 y1 x3 xW (by show N1 5 + 1 = _; rw [x5, n_add1]) s1 s2 (fun j hj => (mAr_o hj).trans (u1 j hj)) (fun j hj => (mAr_o hj).trans (u2 j hj)) ?_
    rw [mAr_s, mAr_s]
    exact AgN_up hC (by rw [u1 28 (by decide), u2 28 (by decide)]; exact (ca j hj).symm)
  have b9 : k = 5 → ∀ (W : Nat), W ≤ 8000 → ∀ (m i : Nat) (N1 N2 : Nat → Int32) (τ1 τ2 : MS), i ≤ W → LE3 N1 N2 → N1 1 = nI a1 → N2 1 = nI a2 → N1 3 = nI p → N1 3 * N1 4 = nI W → N1 5 = nI f → N1 6 = nI i → KPu g1 g2 f i σ1 σ2 τ1 τ2 → Pm m (fun k => x_repeat k 9 N1 τ1) (fun k => x_repeat k 9 N2 τ2) (KQ h1 h2 8204) := by
    intro hk5 W hW m
    have ca := o16 (by omega)
    induction m using Nat.strongRecOn with
    | ind m ih =>
    intro i N1 N2 τ1 τ2 hi hN x1 y1 x3 xW x5 x6 hK
    have y3 : N2 3 = nI p := (hN 3 (by omega)).symm.trans x3
    have yW : N2 3 * N2 4 = nI W := by rw [← hN 3 (by omega), ← hN 4 (by omega)]; exact xW
    have y5 : N2 5 = nI f := (hN 5 (by omega)).symm.trans x5
    have y6 : N2 6 = nI i := (hN 6 (by omega)).symm.trans x6
    have a28 : τ1.2.2 28 = σ1.2.2 28 := hK.1.2.1 28 (by decide)
    have b28 : τ2.2.2 28 = σ2.2.2 28 := hK.2.1.2.1 28 (by decide)
    refine Pm_suc rfl (fun k => by rw [x_repeat]) (fun k => by rw [x_repeat]) (fun k1 hk1 => ?_)
    rw [xW, yW, x1, y1, x6, y6, x3, y3]
    refine Pm_ite Iff.rfl (fun y _ => ?_) (fun y _ => ?_)
    · refine Pm_suc rfl (fun k => by rw [x_repeat]) (fun k => by rw [x_repeat]) (fun k2 hk2 => ?_)
      exact Pm_ob (k_tupP hK hS1 hS2 e1 e2 (by omega) (by omega) (by omega) (by exact x5) (by exact y5)) (fun r1 r2 hr => Pm_some (KQ_mo hr (by omega)))
    have hiW : i < W := by
      by_cases e : W ≤ i
      · exact absurd ((n_le (by omega) (by omega)).mpr e) y
      · omega
    refine Pm_ite Iff.rfl (fun z _ => fun k _ r1 r2 q1 _ => by cases q1) (fun z _ => ?_)
    have hp1 : 0 < p := by
      by_cases e : p = 0
      · exact absurd (by rw [e]; rfl) z
      · omega
    obtain ⟨j, hj, ej⟩ := n_rem (i := i) (n := p) (by omega) hp1 (by omega)
    rw [ej, show nI a1 + 4 = nI (a1 + 4) from n_add (q := 4) (by omega), show nI a2 + 4 = nI (a2 + 4) from n_add (q := 4) (by omega), n_add (p := a1 + 4) (by omega), n_add (p := a2 + 4) (by omega), n_cl (p := a1 + 4 + j) (by omega), n_cl (p := a2 + 4 + j) (by omega), a28, b28]
    refine Pm_chk (fun _ _ => ?_)
    exact Pm_ob (k_push hK (by omega) (ca j hj) rfl rfl) (fun r1 r2 hr => ih k1 (by omega) (i + 1) _ _ _ _ (by omega) (LE_u hN rfl) x1 y1 x3 xW x5 (by show nI i + 1 = _; rw [n_add1]) hr)
  have b3 : ∀ (m y : Nat) (N1 N2 : Nat → Int32), y ≤ 5001 → LE3 N1 N2 → N1 1 = nI a1 → N2 1 = nI a2 → N1 3 = nI p → N1 100 = nI y → Pm m (fun k => x_repeat k 3 N1 σ1) (fun k => x_repeat k 3 N2 σ2) (KQ h1 h2 8204) := by
    intro m y N1 N2 hy hN x1 y1 x3 x100
    have y3 : N2 3 = nI p := (hN 3 (by omega)).symm.trans x3
    have y100 : N2 100 = nI y := (hN 100 (by omega)).symm.trans x100
    have hpy : p * y ≤ 3996 * 5001 := Nat.mul_le_mul o6 hy
    refine Pm_suc rfl (fun k => by rw [x_repeat]) (fun k => by rw [x_repeat]) (fun k1 hk1 => ?_)
    rw [x3, y3, x100, y100]
    refine Pm_ite Iff.rfl (fun z _ => ?_) (fun _ _ => ?_)
    · have hW : p * y ≤ 8000 := by
        have := w_cmp.mp z
        rw [w_mul (by omega) (by omega)] at this
        have e8 : (8000 : Int64).toInt = 8000 := rfl
        rw [e8] at this
        omega
      have hN4 : LE3 (upd N1 4 (nI y)) (upd N2 4 (nI y)) := LE_u hN rfl
      have xW : upd N1 4 (nI y) 3 * upd N1 4 (nI y) 4 = nI (p * y) := by
        show N1 3 * nI y = _
        rw [x3, n_mulN]
      refine Pm_suc rfl (fun k => by rw [x_repeat]) (fun k => by rw [x_repeat]) (fun k2 hk2 => ?_)
      rw [show upd N1 4 (nI y) 1 = nI a1 from x1, show upd N2 4 (nI y) 1 = nI a2 from y1, n_cl (p := a1) (by omega), n_cl (p := a2) (by omega), o9, o10]
      refine Pm_chk (fun _ _ => ?_)
      refine Pm_ite Iff.rfl (fun w _ => ?_) (fun w _ => ?_)
      · have w := (n_eq (q := 4) (by omega) (by decide)).mp w
        exact b5 w (p * y) (by omega) k2 0 _ _ _ _ (Nat.zero_le _) (by omega) (LE_u hN4 rfl) x1 y1 x3 xW rfl (fun _ => rfl) (fun _ => rfl) (fun _ _ => rfl) (fun _ _ => rfl) (fun i hi => absurd hi (Nat.not_lt_zero i))
      · have w : ¬ k = 4 := fun e => w (by rw [e]; rfl)
        refine Pm_suc rfl (fun k => by rw [x_repeat]) (fun k => by rw [x_repeat]) (fun k3 hk3 => ?_)
        rw [t1, t2]
        exact b9 (by omega) (p * y) hW k3 0 _ _ _ _ (Nat.zero_le _) (LE_u (LE_u hN4 rfl) rfl) x1 y1 x3 xW rfl rfl (KPu_0 t1 t2)
    · refine Pm_ob (k_fail (K := 8204) (e := 5) (by decide) hS1 hS2 rfl rfl) (fun r1 r2 hr => ?_)
      rw [hr.1, hr.2.1]
      exact Pm_some hr.2.2
  refine Pm_suc rfl (fun k => by rw [x_repeat]) (fun k => by rw [x_repeat]) (fun m1 _ => ?_)
  refine Pm_ob (k_signOf hS1 hS2 hB (by exact d2) (by exact f2)) (fun z1 z2 hz => ?_)
  rw [hz.1, hz.2]
  refine Pm_ite Iff.rfl (fun s0 _ => ?_) (fun _ _ => ?_)
  case refine_2 =>
    refine Pm_ob (k_fail (K := 8204) (e := 4) (by decide) hS1 hS2 rfl rfl) (fun r1 r2 hr => ?_)
    rw [hr.1, hr.2.1]
    exact Pm_some hr.2.2
  refine Pm_suc rfl (fun k => by rw [x_repeat]) (fun k => by rw [x_repeat]) (fun m2 _ => ?_)
  rw [d1, f1, n_add1, n_add1, n_cl (p := a1 + 1) (by omega), n_cl (p := a2 + 1) (by omega), o11, o12]
  refine Pm_chk (fun _ _ => ?_)
  refine Pm_ite Iff.rfl (fun _ _ => b3 m2 0 _ _ (by omega) (LE_u (LE_u hL rfl) rfl) d1 f1 rfl rfl) (fun _ _ => ?_)
  refine Pm_suc rfl (fun k => by rw [x_repeat]) (fun k => by rw [x_repeat]) (fun m3 _ => ?_)
  refine Pm_ob (Pm_un (s_intOf (b := 5000) hS1 hB.1 (by decide) (by exact d2) rfl) (fun k => f_intOf k _ _ _ _) (s_intOf (b := 5000) hS2 hB.2.1 (by decide) (by exact f2) rfl) (fun k => f_intOf k _ _ _ _) (k_intOf hS1 hS2 hB (by exact d2) (by exact f2) rfl)) (fun r1 r2 hr => ?_)
  obtain ⟨hr0, ⟨hr1', y, hy, _, hy2⟩, ⟨hr2', _⟩⟩ := hr
  have ey := hy2 s0
  rw [← hr0, hr1', hr2', ey]
  exact b3 m3 y _ _ (by omega) (LE_u (LE_u hL rfl) rfl) d1 f1 rfl rfl
end KRP
end JnS172
