/-! Two runs side by side (reference): tuples. -/
section UTP
variable {g : Nat → Prop} {l : List Nat} {B h t : Nat} {σ : MS}
/-- a tuple is filled and measured -/
theorem u_tup3 {m f w : Nat} (hS : HS g l B h σ) (h56 : σ.1 56 = 0) (hfw : f + w ≤ 185000) (hr : h + 4 + w ≤ B + 870000) (hV : PLv g (σ.2.2 29) f w) {N : Nat → Int32} (n1 : N 1 = nI f) (n2 : N 2 = nI w) : Um m (fun k => x_tupleOf k 3 N σ) (RwM (σ.2.2 28) h 5 w (fun i => σ.2.2 29 (f + i))) := by
  have hb := HS_b hS
  have hB := hS.2.1
  refine Um_suc rfl (fun k => by rw [x_tupleOf]) (fun m1 _ => ?_)
  rw [n2]
  refine Um_ob (u_make hS (n := w) (by omega) hr rfl) (fun r hr' => ?_)
  rw [hr']
  refine Um_ite (fun _ => ?_) (fun z => absurd (by rw [mMk_s (by decide), h56]; decide) z)
  refine Um_suc rfl (fun k => by rw [x_tupleOf]) (fun m2 _ => ?_)
  have l5 : ∀ (m i : Nat) (M : Nat → Int32) (τ : MS), i ≤ w → M 1 = nI f → M 2 = nI w → M 3 = nI h → M 4 = nI i → τ.1 54 = σ.1 54 → τ.1 56 = 0 → τ.1 55 = nI (h + 4 + w) → τ.2.2 29 = σ.2.2 29 → τ.2.2 28 h = nI 5 → τ.2.2 28 (h + 1) = nI w → (∀ k, k < i → τ.2.2 28 (h + 4 + k) = σ.2.2 29 (f + k)) → (∀ k, B + 4 ≤ k → k < h → τ.2.2 28 k = σ.2.2 28 k) → Um m (fun k => x_tupleOf k 5 M τ) (RwM (σ.2.2 28) h 5 w (fun i => σ.2.2 29 (f + i))) := by
    intro m
    induction m using Nat.strongRecOn with
    | ind m ih =>
    intro i M τ hi m1 m2 m3 m4 t54 t56 t55 t29 th th1 tc hag
    refine Um_suc rfl (fun k => by rw [x_tupleOf]) (fun k1 hk1 => ?_)
    rw [m2, m4, m1, m3, n_add (p := f) (by omega), show nI h + 4 = nI (h + 4) from n_add (q := 4) (by omega), n_add (p := h + 4) (by omega), n_cl (p := h + 4 + i) (by omega), n_cl (p := f + i) (by omega)]
    refine Um_ite (fun y => ?_) (fun y => ?_)
    · have y := (n_le (by omega) (by omega)).mp y
      have e : i = w := by omega
      rw [e] at tc
      refine Um_suc rfl (fun k => by rw [x_tupleOf]) (fun k2 hk2 => ?_)
      have hSt : HS g (l ++ [h]) B (h + 4 + w) τ := HS_fin hS hr t54 t55 hag th1
      refine Um_ob (u_measured (c := fun i => σ.2.2 29 (f + i)) hSt (by omega) t56 t55 th th1 tc (fun i hi => hV i hi) (fun m hm => ?_) (by exact m3)) (fun r hr => Um_some hr)
      have a := szN_ext (H' := τ.2.2 28) hag hS.2.2.2.2 (by omega) hm
      exact ⟨a.1.symm, a.2.symm⟩
    have hiw : i < w := by
      by_cases e : w ≤ i
      · exact absurd ((n_le (by omega) (by omega)).mpr e) y
      · omega
    refine Um_chk (fun _ => ?_)
    refine Um_chk (fun _ => ?_)
    rw [t29]
    show Um k1 (fun k => x_tupleOf k 6 M (mAr τ 28 (h + 4 + i) (σ.2.2 29 (f + i)))) _
    refine Um_suc rfl (fun k => by rw [x_tupleOf]) (fun k2 hk2 => ?_)
    have u : ∀ j, j ≠ h + 4 + i → (mAr τ 28 (h + 4 + i) (σ.2.2 29 (f + i))).2.2 28 j = τ.2.2 28 j := fun j hj => by rw [mAr_s, upd_other hj]
    refine ih k2 (by omega) (i + 1) _ _ (by omega) m1 m2 m3 (by show M 4 + 1 = _; rw [m4, n_add1]) t54 t56 t55 (by rw [mAr_o (by decide)]; exact t29) ((u _ (by omega)).trans th) ((u _ (by omega)).trans th1) (fun k hk => ?_) (fun k h1 h2 => (u _ (by omega)).trans (hag k h1 h2))
    by_cases e : k = i
    · rw [e, mAr_s, upd_same]
    · exact (u _ (by omega)).trans (tc k (by omega))
  refine l5 m2 0 _ _ (Nat.zero_le _) n1 n2 rfl rfl (mMk_s (by decide)) ((mMk_s (by decide)).trans h56) ?_ (mMk_o (by decide)) ?_ ?_ (fun k hk => absurd hk (Nat.not_lt_zero k)) (fun i h1 h2 => ?_)
  · show nI (h + (4 + w)) = _
    rw [Nat.add_assoc]
  · show (mMk σ h _ w).2.2 28 h = _
    rw [mMk_28, upd_other (by omega), upd_other (by omega), upd_other (by omega), upd_same]; rfl
  · show (mMk σ h _ w).2.2 28 (h + 1) = _
    rw [mMk_28, upd_other (by omega), upd_other (by omega), upd_same]
  · show (mMk σ h _ w).2.2 28 i = _
    rw [mMk_28, upd_other (by omega), upd_other (by omega), upd_other (by omega), upd_other (by omega)]
end UTP
section KTP
variable {g1 g2 : Nat → Prop} {l1 l2 : List Nat} {B1 h1 B2 h2 n : Nat} {σ1 σ2 : MS}
/-- values upon the pile that hold the same -/
def PlE (g1 g2 : Nat → Prop) (σ1 σ2 : MS) (f w : Nat) : Prop := CeE g1 g2 (σ1.2.2 28) (σ2.2.2 28) (fun i => σ1.2.2 29 (f + i)) (fun i => σ2.2.2 29 (f + i)) w
theorem PlE_1 {f w : Nat} (h : PlE g1 g2 σ1 σ2 f w) : PLv g1 (σ1.2.2 29) f w := fun i hi => by
  obtain ⟨a, b, a1, a2, _⟩ := h i hi
  exact ⟨a, a1, a2⟩
theorem PlE_2 {f w : Nat} (h : PlE g1 g2 σ1 σ2 f w) : PLv g2 (σ2.2.2 29) f w := fun i hi => by
  obtain ⟨a, b, _, _, b1, b2, _⟩ := h i hi
  exact ⟨b, b1, b2⟩
theorem PlE_mo {f w v : Nat} (h : PlE g1 g2 σ1 σ2 f w) (hv : v ≤ w) : PlE g1 g2 σ1 σ2 f v := fun i hi => h i (by omega)
theorem VC_0 {H1 H2 : Nat → Int32} {x y : Int32} (h : VC g1 g2 H1 H2 x y) : x = 0 ↔ y = 0 := by
  obtain ⟨a, b, a1, _, b1, _, ev, ab, bb⟩ := h
  rw [a1, b1]
  rcases EVb_3 ev with ⟨z1, z2⟩ | ⟨z1, z2⟩
  · rw [z2]
  · constructor
    · intro z; have := (n_eq0 (by omega)).mp z; omega
    · intro z; have := (n_eq0 (by omega)).mp z; omega
theorem k_tupleOf {f w : Nat} (hS1 : HS g1 l1 B1 h1 σ1) (hS2 : HS g2 l2 B2 h2 σ2) (e1 : σ1.1 56 = 0) (e2 : σ2.1 56 = 0) (t1 : σ1.1 59 = nI (f + w)) (t2 : σ2.1 59 = nI (f + w)) (hfw : f + w ≤ 185000) (hr1 : h1 + 4 + w ≤ B1 + 870000) (hr2 : h2 + 4 + w ≤ B2 + 870000) (hP : PlE g1 g2 σ1 σ2 f w) {L1 L2 : Nat → Int32} (d1 : L1 1 = nI f) (d2 : L2 1 = nI f) : Pm n (fun k => x_tupleOf k 0 L1 σ1) (fun k => x_tupleOf k 0 L2 σ2) (KQ h1 h2 (4 + w)) := by
  have hb1 := HS_b hS1
  have hb2 := HS_b hS2
  have x1 := hS1.2.1
  have x2 := hS2.2.1
  have un1 := s_tupleOf hS1 ⟨0, e1, by decide⟩ t1 hfw (PlE_1 hP) d1
  have un2 := s_tupleOf hS2 ⟨0, e2, by decide⟩ t2 hfw (PlE_2 hP) d2
  have core : Pm n (fun k => x_tupleOf k 0 L1 σ1) (fun k => x_tupleOf k 0 L2 σ2) (fun r1 r2 => ∃ v, v ≤ w ∧ RwM (σ1.2.2 28) h1 5 v (fun i => σ1.2.2 29 (f + i)) r1 ∧ RwM (σ2.2.2 28) h2 5 v (fun i => σ2.2.2 29 (f + i)) r2) := by
    have b2 : ∀ (m v : Nat) (N1 N2 : Nat → Int32), v ≤ w → N1 1 = nI f → N2 1 = nI f → N1 2 = nI v → N2 2 = nI v → Pm m (fun k => x_tupleOf k 2 N1 σ1) (fun k => x_tupleOf k 2 N2 σ2) (fun r1 r2 => ∃ v, v ≤ w ∧ RwM (σ1.2.2 28) h1 5 v (fun i => σ1.2.2 29 (f + i)) r1 ∧ RwM (σ2.2.2 28) h2 5 v (fun i => σ2.2.2 29 (f + i)) r2) := by
      intro m v N1 N2 hv y1 y2 y3 y4
      refine Pm_suc rfl (fun k => by rw [x_tupleOf]) (fun k => by rw [x_tupleOf]) (fun m1 _ => ?_)
      rw [y1, y2]
      show Pm m1 (fun k => x_tupleOf k 3 N1 (mSc σ1 59 (nI f))) (fun k => x_tupleOf k 3 N2 (mSc σ2 59 (nI f))) _
      refine Pm_mono (Pm_u2 (u_tup3 (σ := mSc σ1 59 (nI f)) (HS_c hS1 rfl rfl rfl) e1 (by omega) (by omega) (fun i hi => PlE_1 hP i (by omega)) y1 y3) (u_tup3 (σ := mSc σ2 59 (nI f)) (HS_c hS2 rfl rfl rfl) e2 (by omega) (by omega) (fun i hi => PlE_2 hP i (by omega)) y2 y4)) (fun r1 r2 hr => ⟨v, hv, hr.1, hr.2⟩)
    have b1 : ∀ (v m : Nat) (N1 N2 : Nat → Int32), v ≤ w → N1 1 = nI f → N2 1 = nI f → N1 2 = nI v → N2 2 = nI v → Pm m (fun k => x_tupleOf k 1 N1 σ1) (fun k => x_tupleOf k 1 N2 σ2) (fun r1 r2 => ∃ v, v ≤ w ∧ RwM (σ1.2.2 28) h1 5 v (fun i => σ1.2.2 29 (f + i)) r1 ∧ RwM (σ2.2.2 28) h2 5 v (fun i => σ2.2.2 29 (f + i)) r2) := by
      intro v
      induction v with
      | zero =>
        intro m N1 N2 hv y1 y2 y3 y4
        refine Pm_suc rfl (fun k => by rw [x_tupleOf]) (fun k => by rw [x_tupleOf]) (fun m1 _ => ?_)
        rw [y3, y4]
        exact Pm_ite Iff.rfl (fun _ _ => b2 m1 0 N1 N2 hv y1 y2 y3 y4) (fun z _ => absurd (by decide) z)
      | succ v ih =>
        intro m N1 N2 hv y1 y2 y3 y4
        refine Pm_suc rfl (fun k => by rw [x_tupleOf]) (fun k => by rw [x_tupleOf]) (fun m1 _ => ?_)
        rw [y3, y4, y1, y2, n_add (by omega), show nI (f + (v + 1)) - 1 = nI (f + v) from n_sub (p := f + (v + 1)) (q := 1) (by omega) (by omega), n_cl (p := f + v) (by omega)]
        refine Pm_ite Iff.rfl (fun z _ => absurd ((n_le0 (by omega)).mp z) (by omega)) (fun _ _ => ?_)
        refine Pm_chk (fun _ _ => ?_)
        refine Pm_ite (VC_0 (hP v (by omega))) (fun _ _ => ?_) (fun _ _ => b2 m1 (v + 1) N1 N2 hv y1 y2 y3 y4)
        exact ih m1 _ _ (by omega) y1 y2 (n_pred v (by omega)) (n_pred v (by omega))
    refine Pm_suc rfl (fun k => by rw [x_tupleOf]) (fun k => by rw [x_tupleOf]) (fun m1 _ => ?_)
    rw [t1, t2, d1, d2, n_sub (by omega) (by omega), show f + w - f = w by omega]
    exact b1 w m1 _ _ (Nat.le_refl _) d1 d2 rfl rfl
  refine Pm_mono (Pm_un un1 (fun k => f_tupleOf k _ _ _) un2 (fun k => f_tupleOf k _ _ _) core) (fun r1 r2 hr => ?_)
  obtain ⟨⟨v, hv, a, b⟩, ⟨_, _, _, u1, _⟩, ⟨_, _, _, u2, _⟩⟩ := hr
  exact RwM_ev hS1 hS2 (Or.inl rfl) (by omega) (PlE_mo hP hv) u1.2.2.2 u2.2.2.2 (by omega) (by omega) a b
end KTP
