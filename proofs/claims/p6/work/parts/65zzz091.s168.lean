/-! Two runs side by side (reference): sets. -/
section UST6
variable {g : Nat → Prop} {l : List Nat} {B h t : Nat} {σ : MS}
/-- a set is filled and measured -/
theorem u_set1 {m f w : Nat} (hS : HS g l B h σ) (h56 : σ.1 56 = 0) (hfw : f + w ≤ 185000) (hr : h + 4 + w ≤ B + 870000) (hV : PLv g (σ.2.2 29) f w) {N : Nat → Int32} (n1 : N 1 = nI f) (n2 : N 2 = nI w) : Um m (fun k => x_setOf k 1 N σ) (RwM (σ.2.2 28) h 6 w (fun i => σ.2.2 29 (f + i))) := by
  have hb := HS_b hS
  have hB := hS.2.1
  refine Um_suc rfl (fun k => by rw [x_setOf]) (fun m1 _ => ?_)
  rw [n2]
  refine Um_ob (u_make hS (n := w) (by omega) hr rfl) (fun r hr' => ?_)
  rw [hr']
  refine Um_ite (fun _ => ?_) (fun z => absurd (by rw [mMk_s (by decide), h56]; decide) z)
  refine Um_suc rfl (fun k => by rw [x_setOf]) (fun m2 _ => ?_)
  have l5 : ∀ (m i : Nat) (M : Nat → Int32) (τ : MS), i ≤ w → M 1 = nI f → M 2 = nI w → M 3 = nI h → M 4 = nI i → τ.1 54 = σ.1 54 → τ.1 56 = 0 → τ.1 55 = nI (h + 4 + w) → τ.2.2 29 = σ.2.2 29 → τ.2.2 28 h = nI 6 → τ.2.2 28 (h + 1) = nI w → (∀ k, k < i → τ.2.2 28 (h + 4 + k) = σ.2.2 29 (f + k)) → (∀ k, B + 4 ≤ k → k < h → τ.2.2 28 k = σ.2.2 28 k) → Um m (fun k => x_setOf k 3 M τ) (RwM (σ.2.2 28) h 6 w (fun i => σ.2.2 29 (f + i))) := by
    intro m
    induction m using Nat.strongRecOn with
    | ind m ih =>
    intro i M τ hi m1 m2 m3 m4 t54 t56 t55 t29 th th1 tc hag
    refine Um_suc rfl (fun k => by rw [x_setOf]) (fun k1 hk1 => ?_)
    rw [m2, m4, m1, m3, n_add (p := f) (by omega), show nI h + 4 = nI (h + 4) from n_add (q := 4) (by omega), n_add (p := h + 4) (by omega), n_cl (p := h + 4 + i) (by omega), n_cl (p := f + i) (by omega)]
    refine Um_ite (fun y => ?_) (fun y => ?_)
    · have y := (n_le (by omega) (by omega)).mp y
      have e : i = w := by omega
      rw [e] at tc
      refine Um_suc rfl (fun k => by rw [x_setOf]) (fun k2 hk2 => ?_)
      have hSt : HS g (l ++ [h]) B (h + 4 + w) τ := HS_fin hS hr t54 t55 hag th1
      refine Um_ob (u_measured (c := fun i => σ.2.2 29 (f + i)) hSt (by omega) t56 t55 th th1 tc (fun i hi => hV i hi) (fun m hm => ?_) (by exact m3)) (fun r hr => Um_some hr)
      have a := szN_ext (H' := τ.2.2 28) hag hS.2.2.2.2 (by omega) hm
      exact ⟨a.1.symm, a.2.symm⟩
    have hiw : i < w := by
      by_cases e : w ≤ i
      · exact absurd ((n_le (by omega) (by omega)).mpr e) y
      · omega
    refine Um_chk (fun _ => ?_)
    refine Um_chk (fun _ => ?_)
    rw [t29]
    show Um k1 (fun k => x_setOf k 4 M (mAr τ 28 (h + 4 + i) (σ.2.2 29 (f + i)))) _
    refine Um_suc rfl (fun k => by rw [x_setOf]) (fun k2 hk2 => ?_)
    have u : ∀ j, j ≠ h + 4 + i → (mAr τ 28 (h + 4 + i) (σ.2.2 29 (f + i))).2.2 28 j = τ.2.2 28 j := fun j hj => by rw [mAr_s, upd_other hj]
    refine ih k2 (by omega) (i + 1) _ _ (by omega) m1 m2 m3 (by show M 4 + 1 = _; rw [m4, n_add1]) t54 t56 t55 (by rw [mAr_o (by decide)]; exact t29) ((u _ (by omega)).trans th) ((u _ (by omega)).trans th1) (fun k hk => ?_) (fun k h1 h2 => (u _ (by omega)).trans (hag k h1 h2))
    by_cases e : k = i
    · rw [e, mAr_s, upd_same]
    · exact (u _ (by omega)).trans (tc k (by omega))
  refine l5 m2 0 _ _ (Nat.zero_le _) n1 n2 rfl rfl (mMk_s (by decide)) ((mMk_s (by decide)).trans h56) ?_ (mMk_o (by decide)) ?_ ?_ (fun k hk => absurd hk (Nat.not_lt_zero k)) (fun i h1 h2 => ?_)
  · show nI (h + (4 + w)) = _
    rw [Nat.add_assoc]
  · show (mMk σ h _ w).2.2 28 h = _
    rw [mMk_28, upd_other (by omega), upd_other (by omega), upd_other (by omega), upd_same]; rfl
  · show (mMk σ h _ w).2.2 28 (h + 1) = _
    rw [mMk_28, upd_other (by omega), upd_other (by omega), upd_same]
  · show (mMk σ h _ w).2.2 28 i = _
    rw [mMk_28, upd_other (by omega), upd_other (by omega), upd_other (by omega), upd_other (by omega)]
end UST6
section KDS
variable {g1 g2 : Nat → Prop} {l1 l2 : List Nat} {B1 h1 B2 h2 n : Nat} {σ1 σ2 : MS}
/-- while rows are sorted -/
def DsI (g1 g2 : Nat → Prop) (f w : Nat) (σ1 σ2 τ1 τ2 : MS) : Prop := SF f σ1 τ1 ∧ SF f σ2 τ2 ∧ τ1.1 59 = σ1.1 59 ∧ τ2.1 59 = σ2.1 59 ∧ ∀ i, i < w → VC g1 g2 (σ1.2.2 28) (σ2.2.2 28) (τ1.2.2 29 (f + i)) (τ2.2.2 29 (f + i))
/-- what distinct leaves -/
def DsO (g1 g2 : Nat → Prop) (f w : Nat) (σ1 σ2 : MS) (r1 r2 : Int32 × MS) : Prop := ∃ v, v ≤ w ∧ SF f σ1 r1.2 ∧ SF f σ2 r2.2 ∧ r1.2.1 59 = nI (f + v) ∧ r2.2.1 59 = nI (f + v) ∧ ∀ i, i < v → VC g1 g2 (σ1.2.2 28) (σ2.2.2 28) (r1.2.2.2 29 (f + i)) (r2.2.2.2 29 (f + i))
theorem DsI_HS1 {f w : Nat} {τ1 τ2 : MS} (hS1 : HS g1 l1 B1 h1 σ1) (h : DsI g1 g2 f w σ1 σ2 τ1 τ2) : HS g1 l1 B1 h1 τ1 := SF_HS h.1 hS1
theorem DsI_P {f w : Nat} {τ1 τ2 : MS} (h : DsI g1 g2 f w σ1 σ2 τ1 τ2) : PlE g1 g2 τ1 τ2 f w := fun i hi => by
  have := h.2.2.2.2 i hi
  rw [h.1.2.1 28 (by decide), h.2.1.2.1 28 (by decide)]; exact this
/-- the pass over what is sorted -/
theorem k_ds12 {f w : Nat} (hS1 : HS g1 l1 B1 h1 σ1) (hS2 : HS g2 l2 B2 h2 σ2) (hw : w ≤ 60100) (hfw : f + w ≤ 185000) : ∀ (m v i : Nat) (N : Nat → Int32) (τ1 τ2 : MS), v ≤ i → i ≤ w → N 1 = nI f → N 2 = nI w → N 3 = nI v → N 4 = nI i → DsI g1 g2 f w σ1 σ2 τ1 τ2 → Pm m (fun k => x_distinct k 12 N τ1) (fun k => x_distinct k 12 N τ2) (DsO g1 g2 f w σ1 σ2) := by
  intro m
  induction m using Nat.strongRecOn with
  | ind m ih =>
  intro v i N τ1 τ2 hvi hi n1 n2 n3 n4 hD
  have hT1 : HS g1 l1 B1 h1 τ1 := SF_HS hD.1 hS1
  have hT2 : HS g2 l2 B2 h2 τ2 := SF_HS hD.2.1 hS2
  have b15 : ∀ (m' v' : Nat) (M : Nat → Int32) (υ1 υ2 : MS), m' < m → i < w → v' ≤ i + 1 → M 1 = nI f → M 2 = nI w → M 3 = nI v' → M 4 = nI i → DsI g1 g2 f w σ1 σ2 υ1 υ2 → Pm m' (fun k => x_distinct k 15 M υ1) (fun k => x_distinct k 15 M υ2) (DsO g1 g2 f w σ1 σ2) := by
    intro m' v' M υ1 υ2 hm' hiw hv' x1 x2 x3 x4 hD'
    refine Pm_suc rfl (fun k => by rw [x_distinct]) (fun k => by rw [x_distinct]) (fun k1 hk1 => ?_)
    exact ih k1 (by omega) v' (i + 1) _ _ _ hv' (by omega) x1 x2 x3 (by show M 4 + 1 = _; rw [x4, n_add1]) hD'
  have b13 : ∀ m', m' < m → i < w → Pm m' (fun k => x_distinct k 13 N τ1) (fun k => x_distinct k 13 N τ2) (DsO g1 g2 f w σ1 σ2) := fun m' hm' hiw => by
    refine Pm_suc rfl (fun k => by rw [x_distinct]) (fun k => by rw [x_distinct]) (fun k1 hk1 => ?_)
    rw [n1, n3, n4, n_add (p := f) (q := i) (by omega), n_add (p := f) (q := v) (by omega), n_cl (p := f + i) (by omega), n_cl (p := f + v) (by omega)]
    refine Pm_chk (fun _ _ => ?_)
    refine Pm_chk (fun _ _ => ?_)
    show Pm k1 (fun k => x_distinct k 14 N (mAr τ1 29 (f + v) (τ1.2.2 29 (f + i)))) (fun k => x_distinct k 14 N (mAr τ2 29 (f + v) (τ2.2.2 29 (f + i)))) _
    refine Pm_suc rfl (fun k => by rw [x_distinct]) (fun k => by rw [x_distinct]) (fun k2 hk2 => ?_)
    refine b15 k2 (v + 1) _ _ _ (by omega) hiw (by omega) n1 n2 (by show N 3 + 1 = _; rw [n3, n_add1]) n4 ⟨SF_tr hD.1 (SF_29 (by omega)), SF_tr hD.2.1 (SF_29 (by omega)), hD.2.2.1, hD.2.2.2.1, fun j hj => ?_⟩
    rw [mAr_s, mAr_s]
    by_cases e : j = v
    · rw [e, upd_same, upd_same]; exact hD.2.2.2.2 i hiw
    · rw [upd_other (by omega), upd_other (by omega)]; exact hD.2.2.2.2 j hj
  refine Pm_suc rfl (fun k => by rw [x_distinct]) (fun k => by rw [x_distinct]) (fun k1 hk1 => ?_)
  rw [n1, n2, n3, n4]
  refine Pm_ite Iff.rfl (fun _ _ => ?_) (fun y _ => ?_)
  · refine Pm_suc rfl (fun k => by rw [x_distinct]) (fun k => by rw [x_distinct]) (fun k2 hk2 => ?_)
    rw [n1, n3, n_add (by omega)]
    show Pm k2 (fun _ => some (0, mSc τ1 59 (nI (f + v)))) (fun _ => some (0, mSc τ2 59 (nI (f + v)))) _
    refine Pm_some ⟨v, by omega, ?_, ?_, rfl, rfl, fun j hj => hD.2.2.2.2 j (by omega)⟩
    · exact SF_tr hD.1 ⟨fun j hj => upd_other hj, fun _ _ => rfl, fun _ _ => rfl⟩
    · exact SF_tr hD.2.1 ⟨fun j hj => upd_other hj, fun _ _ => rfl, fun _ _ => rfl⟩
  have hiw : i < w := by
    by_cases e : w ≤ i
    · exact absurd ((n_le (by omega) (by omega)).mpr e) y
    · omega
  refine Pm_ite Iff.rfl (fun _ _ => b13 k1 (by omega) hiw) (fun z _ => ?_)
  have hv1 : 1 ≤ v := by
    by_cases e : v = 0
    · exact absurd (by rw [e]; rfl) z
    · omega
  obtain ⟨u, rfl⟩ : ∃ u, v = u + 1 := ⟨v - 1, by omega⟩
  rw [n_add (p := f) (q := u + 1) (by omega), show nI (f + (u + 1)) - 1 = nI (f + u) from n_sub (p := f + (u + 1)) (q := 1) (by omega) (by omega), n_add (p := f) (q := i) (by omega), n_cl (p := f + u) (by omega), n_cl (p := f + i) (by omega)]
  refine Pm_chk (fun _ _ => ?_)
  refine Pm_chk (fun _ _ => ?_)
  obtain ⟨a1, a2, u1, u2, u3, u4, u5, _, _⟩ := DsI_P hD u (by omega)
  obtain ⟨c1, c2, v1, v2, v3, v4, v5, _, _⟩ := DsI_P hD i hiw
  have u1 : τ1.2.2 29 (f + u) = nI a1 := u1
  have u3 : τ2.2.2 29 (f + u) = nI a2 := u3
  have v1 : τ1.2.2 29 (f + i) = nI c1 := v1
  have v3 : τ2.2.2 29 (f + i) = nI c2 := v3
  rw [u1, u3, v1, v3]
  refine Pm_ob (k_compare hT1 hT2 u2 v2 u4 v4 u5 v5 rfl rfl rfl rfl) (fun r1 r2 hr => ?_)
  rw [hr.1, hr.2.1, hr.2.2]
  exact Pm_ite Iff.rfl (fun _ _ => b15 k1 (u + 1) _ _ _ (by omega) hiw (by omega) n1 n2 n3 n4 hD) (fun _ _ => b13 k1 (by omega) hiw)
/-- rows of width s are merged, pass by pass -/
theorem k_distinct {f w : Nat} (hS1 : HS g1 l1 B1 h1 σ1) (hS2 : HS g2 l2 B2 h2 σ2) (t1 : σ1.1 59 = nI (f + w)) (t2 : σ2.1 59 = nI (f + w)) (hw : w ≤ 60100) (hfw : f + w ≤ 185000) (hP : PlE g1 g2 σ1 σ2 f w) {L : Nat → Int32} (d1 : L 1 = nI f) : Pm n (fun k => x_distinct k 0 L σ1) (fun k => x_distinct k 0 L σ2) (DsO g1 g2 f w σ1 σ2) := by
  have b1 : ∀ (m s : Nat) (N : Nat → Int32) (τ1 τ2 : MS), 1 ≤ s → s ≤ 130000 → N 1 = nI f → N 2 = nI w → N 3 = nI s → DsI g1 g2 f w σ1 σ2 τ1 τ2 → Pm m (fun k => x_distinct k 1 N τ1) (fun k => x_distinct k 1 N τ2) (DsO g1 g2 f w σ1 σ2) := by
    intro m
    induction m using Nat.strongRecOn with
    | ind m ih =>
    intro s N τ1 τ2 hs1 hs n1 n2 n3 hD
    refine Pm_suc rfl (fun k => by rw [x_distinct]) (fun k => by rw [x_distinct]) (fun k1 hk1 => ?_)
    rw [n2, n3]
    refine Pm_ite Iff.rfl (fun _ _ => ?_) (fun y _ => ?_)
    · refine Pm_suc rfl (fun k => by rw [x_distinct]) (fun k => by rw [x_distinct]) (fun k2 hk2 => ?_)
      exact k_ds12 hS1 hS2 hw hfw k2 0 0 _ _ _ (Nat.le_refl _) (Nat.zero_le _) n1 n2 rfl rfl hD
    have hsw : s < w := by
      by_cases e : w ≤ s
      · exact absurd ((n_le (by omega) (by omega)).mpr e) y
      · omega
    -- what was merged is put back
    have b8 : ∀ (m' i : Nat) (M : Nat → Int32) (υ1 υ2 : MS), m' < m → i ≤ w → M 1 = nI f → M 2 = nI w → M 3 = nI s → M 4 = nI i → DsI g1 g2 f w σ1 σ2 υ1 υ2 → (∀ j, j < w → VC g1 g2 (σ1.2.2 28) (σ2.2.2 28) (υ1.2.2 41 j) (υ2.2.2 41 j)) → Pm m' (fun k => x_distinct k 8 M υ1) (fun k => x_distinct k 8 M υ2) (DsO g1 g2 f w σ1 σ2) := by
      intro m'
      induction m' using Nat.strongRecOn with
      | ind m' ihj =>
      intro i M υ1 υ2 hm' hi x1 x2 x3 x4 hD' hC
      refine Pm_suc rfl (fun k => by rw [x_distinct]) (fun k => by rw [x_distinct]) (fun k2 hk2 => ?_)
      rw [x1, x2, x4, n_add (p := f) (q := i) (by omega), n_cl (p := f + i) (by omega), n_cl (p := i) (by omega)]
      refine Pm_ite Iff.rfl (fun _ _ => ?_) (fun y _ => ?_)
      · refine Pm_suc rfl (fun k => by rw [x_distinct]) (fun k => by rw [x_distinct]) (fun k3 hk3 => ?_)
        exact ih k3 (by omega) (s + s) _ _ _ (by omega) (by omega) x1 x2 (by show M 3 + M 3 = _; rw [x3, n_add (by omega)]) hD'
      have hiw : i < w := by
        by_cases e : w ≤ i
        · exact absurd ((n_le (by omega) (by omega)).mpr e) y
        · omega
      refine Pm_chk (fun _ _ => ?_)
      refine Pm_chk (fun _ _ => ?_)
      show Pm k2 (fun k => x_distinct k 9 M (mAr υ1 29 (f + i) (υ1.2.2 41 i))) (fun k => x_distinct k 9 M (mAr υ2 29 (f + i) (υ2.2.2 41 i))) _
      refine Pm_suc rfl (fun k => by rw [x_distinct]) (fun k => by rw [x_distinct]) (fun k3 hk3 => ?_)
      refine ihj k3 (by omega) (i + 1) _ _ _ (by omega) (by omega) x1 x2 x3 (by show M 4 + 1 = _; rw [x4, n_add1]) ⟨SF_tr hD'.1 (SF_29 (by omega)), SF_tr hD'.2.1 (SF_29 (by omega)), hD'.2.2.1, hD'.2.2.2.1, fun j hj => ?_⟩ (fun j hj => ?_)
      · rw [mAr_s, mAr_s]
        by_cases e : j = i
        · rw [e, upd_same, upd_same]; exact hC i hiw
        · rw [upd_other (by omega), upd_other (by omega)]; exact hD'.2.2.2.2 j hj
      · rw [mAr_o (by decide), mAr_o (by decide)]; exact hC j hj
    have b2 : ∀ (m' p : Nat) (M : Nat → Int32) (υ1 υ2 : MS), m' < m → p ≤ w + 2 * s → M 1 = nI f → M 2 = nI w → M 3 = nI s → M 4 = nI p → DsI g1 g2 f w σ1 σ2 υ1 υ2 → (∀ j, j < p → j < w → VC g1 g2 (σ1.2.2 28) (σ2.2.2 28) (υ1.2.2 41 j) (υ2.2.2 41 j)) → Pm m' (fun k => x_distinct k 2 M υ1) (fun k => x_distinct k 2 M υ2) (DsO g1 g2 f w σ1 σ2) := by
      intro m'
      induction m' using Nat.strongRecOn with
      | ind m' ihj =>
      intro p M υ1 υ2 hm' hp x1 x2 x3 x4 hD' hC
      have hU1 : HS g1 l1 B1 h1 υ1 := SF_HS hD'.1 hS1
      have hU2 : HS g2 l2 B2 h2 υ2 := SF_HS hD'.2.1 hS2
      refine Pm_suc rfl (fun k => by rw [x_distinct]) (fun k => by rw [x_distinct]) (fun k2 hk2 => ?_)
      rw [x2, x4, x3, n_add (p := p) (q := s) (by omega)]
      refine Pm_ite Iff.rfl (fun y _ => ?_) (fun y _ => ?_)
      · have y := (n_le (by omega) (by omega)).mp y
        refine Pm_suc rfl (fun k => by rw [x_distinct]) (fun k => by rw [x_distinct]) (fun k3 hk3 => ?_)
        exact b8 k3 0 _ _ _ (by omega) (Nat.zero_le _) x1 x2 x3 rfl hD' (fun j hj => hC j (by omega) hj)
      have hpw : p < w := by
        by_cases e : w ≤ p
        · exact absurd ((n_le (by omega) (by omega)).mpr e) y
        · omega
      -- the merge
      have b6 : ∀ (m2 b c : Nat) (O : Nat → Int32), m2 < m' → p ≤ b → b ≤ c → c ≤ w → (c = w ∨ c = p + 2 * s) → O 1 = nI f → O 2 = nI w → O 3 = nI s → O 4 = nI p → O 103 = nI f → O 102 = nI p → O 101 = nI b → O 100 = nI c → Pm m2 (fun k => x_distinct k 6 O υ1) (fun k => x_distinct k 6 O υ2) (DsO g1 g2 f w σ1 σ2) := by
        intro m2 b c O hm2 hpb hbc hcw hce o1 o2 o3 o4 o103 o102 o101 o100
        refine Pm_suc rfl (fun k => by rw [x_distinct]) (fun k => by rw [x_distinct]) (fun k3 hk3 => ?_)
        rw [o103, o102, o101, o100]
        refine Pm_ob (Pm_un (s_merge hU1 (PlE_1 (DsI_P hD')) hw hfw hpb hbc hcw rfl rfl rfl rfl) (fun k => f_merge k _ _ _) (s_merge hU2 (PlE_2 (DsI_P hD')) hw hfw hpb hbc hcw rfl rfl rfl rfl) (fun k => f_merge k _ _ _) (k_merge hU1 hU2 (DsI_P hD') hw hfw hpb hbc hcw (fun i hi => rfl) rfl rfl rfl rfl)) (fun r1 r2 hr => ?_)
        obtain ⟨q0, ⟨q1, q2, q3, q4, q5⟩, ⟨u1, u2, u3, u4, u5⟩⟩ := hr
        rw [hD'.1.2.1 28 (by decide), hD'.2.1.2.1 28 (by decide)] at q0
        refine ihj k3 (by omega) (p + 2 * s) _ _ _ (by omega) (by omega) o1 o2 o3 ?_ ⟨SF_tr hD'.1 q1, SF_tr hD'.2.1 u1, q3.trans hD'.2.2.1, u3.trans hD'.2.2.2.1, fun j hj => ?_⟩ (fun j hj hjw => ?_)
        · show O 4 + 2 * O 3 = _
          rw [o4, o3, show (2 : Int32) * nI s = nI (2 * s) from n_mulN 2 s, n_add (by omega)]
        · rw [q2, u2]; exact hD'.2.2.2.2 j hj
        · by_cases e : j < p
          · rw [q5 j (Or.inl e), u5 j (Or.inl e)]; exact hC j e hjw
          · exact q0 j (by omega) (by omega)
      have b4 : ∀ (m2 b : Nat) (O : Nat → Int32), m2 < m' → p ≤ b → b ≤ w → b ≤ p + s → O 1 = nI f → O 2 = nI w → O 3 = nI s → O 4 = nI p → O 102 = nI f → O 101 = nI p → O 100 = nI b → Pm m2 (fun k => x_distinct k 4 O υ1) (fun k => x_distinct k 4 O υ2) (DsO g1 g2 f w σ1 σ2) := by
        intro m2 b O hm2 hpb hbw hbs o1 o2 o3 o4 o102 o101 o100
        refine Pm_suc rfl (fun k => by rw [x_distinct]) (fun k => by rw [x_distinct]) (fun k3 hk3 => ?_)
        rw [o2, o4, o3, show (2 : Int32) * nI s = nI (2 * s) from n_mulN 2 s, n_add (p := p) (q := 2 * s) (by omega)]
        refine Pm_ite Iff.rfl (fun _ _ => ?_) (fun z _ => ?_)
        · refine Pm_suc rfl (fun k => by rw [x_distinct]) (fun k => by rw [x_distinct]) (fun k4 hk4 => ?_)
          exact b6 k4 b w _ (by omega) hpb hbw (Nat.le_refl _) (Or.inl rfl) o1 o2 o3 o4 o102 o101 o100 o2
        · have hc : p + 2 * s < w := by
            by_cases e : w ≤ p + 2 * s
            · exact absurd ((n_le (by omega) (by omega)).mpr e) z
            · omega
          exact b6 k3 b (p + 2 * s) _ (by omega) hpb (by omega) (by omega) (Or.inr rfl) o1 o2 o3 o4 o102 o101 o100 rfl
      refine Pm_ite Iff.rfl (fun _ _ => ?_) (fun z _ => ?_)
      · refine Pm_suc rfl (fun k => by rw [x_distinct]) (fun k => by rw [x_distinct]) (fun k3 hk3 => ?_)
        by_cases e : w ≤ p + s
        · exact b4 k3 w _ (by omega) (by omega) (Nat.le_refl _) e x1 x2 x3 x4 x1 rfl x2
        · rename_i h _
          exact absurd ((n_le (by omega) (by omega)).mp h) e
      · have hc : p + s < w := by
          by_cases e : w ≤ p + s
          · exact absurd ((n_le (by omega) (by omega)).mpr e) z
          · omega
        exact b4 k2 (p + s) _ (by omega) (by omega) (by omega) (Nat.le_refl _) x1 x2 x3 x4 x1 rfl rfl
    exact b2 k1 0 _ _ _ (by omega) (by omega) n1 n2 n3 rfl hD (fun j hj => absurd hj (Nat.not_lt_zero j))
  refine Pm_suc rfl (fun k => by rw [x_distinct]) (fun k => by rw [x_distinct]) (fun m1 _ => ?_)
  rw [t1, t2, d1, n_sub (by omega) (by omega), show f + w - f = w by omega]
  exact b1 m1 1 _ _ _ (Nat.le_refl _) (by omega) d1 rfl rfl ⟨SF_rf, SF_rf, rfl, rfl, hP⟩
theorem k_setOf {f w : Nat} (hS1 : HS g1 l1 B1 h1 σ1) (hS2 : HS g2 l2 B2 h2 σ2) (e1 : σ1.1 56 = 0) (e2 : σ2.1 56 = 0) (t1 : σ1.1 59 = nI (f + w)) (t2 : σ2.1 59 = nI (f + w)) (hw : w ≤ 60100) (hfw : f + w ≤ 185000) (hr1 : h1 + 4 + w ≤ B1 + 870000) (hr2 : h2 + 4 + w ≤ B2 + 870000) (hP : PlE g1 g2 σ1 σ2 f w) {L1 L2 : Nat → Int32} (d1 : L1 1 = nI f) (d2 : L2 1 = nI f) : Pm n (fun k => x_setOf k 0 L1 σ1) (fun k => x_setOf k 0 L2 σ2) (KQ h1 h2 (4 + w)) := by
  have hb1 := HS_b hS1
  have hb2 := HS_b hS2
  have x1 := hS1.2.1
  have x2 := hS2.2.1
  have un1 := s_setOf hS1 ⟨0, e1, by decide⟩ t1 hfw hw (PlE_1 hP) d1
  have un2 := s_setOf hS2 ⟨0, e2, by decide⟩ t2 hfw hw (PlE_2 hP) d2
  have core : Pm n (fun k => x_setOf k 0 L1 σ1) (fun k => x_setOf k 0 L2 σ2) (fun r1 r2 => ∃ (v : Nat) (c1 c2 : Nat → Int32), v ≤ w ∧ CeE g1 g2 (σ1.2.2 28) (σ2.2.2 28) c1 c2 v ∧ RwM (σ1.2.2 28) h1 6 v c1 r1 ∧ RwM (σ2.2.2 28) h2 6 v c2 r2) := by
    refine Pm_suc rfl (fun k => by rw [x_setOf]) (fun k => by rw [x_setOf]) (fun m1 _ => ?_)
    rw [d1, d2]
    refine Pm_ob (k_distinct hS1 hS2 t1 t2 hw hfw hP rfl) (fun r1 r2 hr => ?_)
    obtain ⟨v, hv, q1, q2, q3, q4, q5⟩ := hr
    rw [q3, q4, n_sub (by omega) (by omega), show f + v - f = v by omega]
    show Pm m1 (fun k => x_setOf k 1 (upd L1 2 (nI v)) (mSc r1.2 59 (nI f))) (fun k => x_setOf k 1 (upd L2 2 (nI v)) (mSc r2.2 59 (nI f))) _
    have hT1 : HS g1 l1 B1 h1 (mSc r1.2 59 (nI f)) := HS_c (SF_HS q1 hS1) rfl rfl rfl
    have hT2 : HS g2 l2 B2 h2 (mSc r2.2 59 (nI f)) := HS_c (SF_HS q2 hS2) rfl rfl rfl
    have a28 : (mSc r1.2 59 (nI f)).2.2 28 = σ1.2.2 28 := q1.2.1 28 (by decide)
    have b28 : (mSc r2.2 59 (nI f)).2.2 28 = σ2.2.2 28 := q2.2.1 28 (by decide)
    have v1 : PLv g1 ((mSc r1.2 59 (nI f)).2.2 29) f v := fun i hi => by
      obtain ⟨a, _, a1, a2, _⟩ := q5 i hi
      exact ⟨a, a1, a2⟩
    have v2 : PLv g2 ((mSc r2.2 59 (nI f)).2.2 29) f v := fun i hi => by
      obtain ⟨_, b, _, _, b1, b2, _⟩ := q5 i hi
      exact ⟨b, b1, b2⟩
    refine Pm_mono (Pm_u2 (u_set1 hT1 ((q1.1 56 (by decide)).trans e1) (by omega) (by omega) v1 (by exact d1) rfl) (u_set1 hT2 ((q2.1 56 (by decide)).trans e2) (by omega) (by omega) v2 (by exact d2) rfl)) (fun s1 s2 hs => ?_)
    rw [a28, b28] at hs
    exact ⟨v, _, _, hv, q5, hs.1, hs.2⟩
  refine Pm_mono (Pm_un un1 (fun k => f_setOf k _ _ _) un2 (fun k => f_setOf k _ _ _) core) (fun r1 r2 hr => ?_)
  obtain ⟨⟨v, c1, c2, hv, hc, a, b⟩, ⟨_, _, _, u1, _⟩, ⟨_, _, _, u2, _⟩⟩ := hr
  exact RwM_ev hS1 hS2 (Or.inr rfl) (by omega) hc u1.2.2.2 u2.2.2.2 (by omega) (by omega) a b
end KDS
