/-! A set out of what lies upon the pile; has (reference). -/
section SET2
variable {g : Nat → Prop} {l : List Nat} {B h t : Nat} {σ : MS}
theorem SF_FW {f : Nat} {τ : MS} (hF : SF f σ τ) : FW f σ τ := ⟨fun j hj => hF.1 j (by omega), fun j hj => hF.2.1 j (by omega), hF.2.2⟩
theorem s_setOf {f n : Nat} (hS : HS g l B h σ) (hE : ErB σ) (h59 : σ.1 59 = nI (f + n)) (hfn : f + n ≤ 185000) (hn : n ≤ 60100) (hV : PLv g (σ.2.2 29) f n) {L : Nat → Int32} (hL : L 1 = nI f) : Tm (fun k => x_setOf k 0 L σ) (VO g B h f σ) := by
  have hb := HS_b hS
  have hB := hS.2.1
  refine Tm_suc (fun k => by rw [x_setOf]) ?_
  refine Tm_ob (s_distinct hS hV h59 hfn hn (by exact hL)) (fun r hr => ?_)
  obtain ⟨m, hmn, hSF, r59, rV⟩ := hr
  rw [r59, hL, n_sub (by omega) (by omega), show f + m - f = m by omega]
  show Tm (fun k => x_setOf k 1 (upd L 2 (nI m)) (mSc r.2 59 (nI f))) _
  have hS1 : HS g l B h (mSc r.2 59 (nI f)) := HS_c (SF_HS hSF hS) rfl rfl rfl
  have hE1 : ErB (mSc r.2 59 (nI f)) := ErB_c (show r.2.1 56 = σ.1 56 from hSF.1 56 (by decide)) hE
  have hF1 : FW f σ (mSc r.2 59 (nI f)) := FW_tr (SF_FW hSF) (FW_sc (Or.inr (Or.inr (Or.inl rfl))))
  have h56 : (mSc r.2 59 (nI f)).1 56 = σ.1 56 := hSF.1 56 (by decide)
  have h28 : (mSc r.2 59 (nI f)).2.2 28 = σ.2.2 28 := hSF.2.1 28 (by decide)
  have p29 : (mSc r.2 59 (nI f)).2.2 29 = r.2.2.2 29 := rfl
  have p59 : (mSc r.2 59 (nI f)).1 59 = nI f := rfl
  generalize mSc r.2 59 (nI f) = ρ at hS1 hE1 hF1 h56 h28 p29 p59
  refine Tm_mono (Q := VO g B h f ρ) ?_ (fun w hw => VO_tr (τ := ρ) (g1 := g) (l1 := l) (h1 := h) ⟨hS1, fun _ z => z, Nat.le_refl _, fun i _ _ => by rw [h28]⟩ hF1 (fun z => by rw [h56]; exact z) hw)
  have n1 : upd L 2 (nI m) 1 = nI f := hL
  have n2 : upd L 2 (nI m) 2 = nI m := rfl
  generalize upd L 2 (nI m) = N at n1 n2
  refine Tm_suc (fun k => by rw [x_setOf]) ?_
  rw [n2]
  refine Tm_ob (s_make hS1 (n := m) (by omega) rfl) (fun r hr => ?_)
  rcases hr with ⟨z, hr⟩ | ⟨z, hr⟩
  · rw [hr]
    refine Tm_ite (fun w => absurd (er_le0 (ErB_er (e := 5) hE1 (by decide)) w) (mEr_e (by decide))) (fun _ => ?_)
    exact Tm_some (VO_er2 hS1 hE1 p59 (e := 5) (by decide))
  · rw [hr]
    refine Tm_ite (fun w => ?_) (fun _ => Tm_some (VO_mk hS1 hE1 p59 z))
    refine Tm_suc (fun k => by rw [x_setOf]) ?_
    have l5 : ∀ (j i : Nat) (M : Nat → Int32) (τ : MS), j + i = m → M 1 = nI f → M 2 = nI m → M 3 = nI h → M 4 = nI i → FW f ρ τ → τ.1 59 = nI f → τ.1 56 = ρ.1 56 → τ.1 55 = nI (h + 4 + m) → τ.2.2 29 = ρ.2.2 29 → τ.2.2 28 h = nI 6 → τ.2.2 28 (h + 1) = nI m → (∀ k, k < i → ∃ m, τ.2.2 28 (h + 4 + k) = nI m ∧ (m < 3 ∨ g m)) → (∀ k, B + 4 ≤ k → k < h → τ.2.2 28 k = ρ.2.2 28 k) → Tm (fun k => x_setOf k 3 M τ) (VO g B h f ρ) := by
      intro j
      induction j with
      | zero =>
        intro i M τ hi m1 m2 m3 m4 hF t59 t56 t55 t29 th th1 hm hag
        have hi : i = m := by omega
        subst hi
        refine Tm_suc (fun k => by rw [x_setOf]) ?_
        rw [m2, m4]
        refine Tm_ite (fun _ => ?_) (fun w => absurd ((n_le (by omega) (by omega)).mpr (by omega)) w)
        refine Tm_suc (fun k => by rw [x_setOf]) ?_
        refine Tm_ob (s_measured (k := 6) hS1 hE1 z (Or.inr rfl) hF t59 t56 t55 th th1 hm hag (by exact m3)) (fun r hr => Tm_some hr)
      | succ j ih =>
        intro i M τ hi m1 m2 m3 m4 hF t59 t56 t55 t29 th th1 hm hag
        obtain ⟨x, x1, x2⟩ := rV i (by omega)
        refine Tm_suc (fun k => by rw [x_setOf]) ?_
        rw [m2, m4, m1, m3, n_add (by omega), show nI h + 4 = nI (h + 4) from n_add (q := 4) (by omega), n_add (by omega)]
        refine Tm_ite (fun w => absurd ((n_le (by omega) (by omega)).mp w) (by omega)) (fun _ => ?_)
        refine Tm_chk (n_in (by omega) (by omega)) ?_
        refine Tm_chk (n_in (by omega) (by omega)) ?_
        rw [n_cl (p := h + 4 + i) (by omega), n_cl (p := f + i) (by omega), t29, p29, x1]
        show Tm (fun k => x_setOf k 4 M (mAr τ 28 (h + 4 + i) (nI x))) _
        refine Tm_suc (fun k => by rw [x_setOf]) ?_
        have u : ∀ j, j ≠ h + 4 + i → (mAr τ 28 (h + 4 + i) (nI x)).2.2 28 j = τ.2.2 28 j := fun j hj => by rw [mAr_s, upd_other hj]
        refine ih (i + 1) _ _ (by omega) m1 m2 m3 (by show M 4 + 1 = _; rw [m4, n_add1]) (FW_tr hF (FW_ar (Or.inl rfl))) t59 t56 t55 (by rw [mAr_o (by decide)]; exact t29) (by rw [u _ (by omega)]; exact th) (by rw [u _ (by omega)]; exact th1) (fun k hk => ?_) (fun k h1 h2 => by rw [u _ (by omega)]; exact hag k h1 h2)
        by_cases e : k = i
        · rw [e, mAr_s, upd_same]; exact ⟨x, rfl, x2⟩
        · rw [u _ (by omega)]; exact hm k (by omega)
    refine l5 m 0 _ _ (by omega) n1 n2 rfl rfl FW_mk ((mMk_s (by decide)).trans p59) (mMk_s (by decide)) ?_ (mMk_o (by decide)) ?_ ?_ (fun k hk => absurd hk (Nat.not_lt_zero k)) (fun i h1 h2 => ?_)
    · show nI (h + (4 + m)) = _
      rw [Nat.add_assoc]
    · rw [mMk_28, upd_other (by omega), upd_other (by omega), upd_other (by omega), upd_same]; rfl
    · rw [mMk_28, upd_other (by omega), upd_other (by omega), upd_same]
    · rw [mMk_28, upd_other (by omega), upd_other (by omega), upd_other (by omega), upd_other (by omega)]
end SET2
