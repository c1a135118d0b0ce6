/-! Two runs side by side (reference): new atoms. -/
section KAT
variable {g : Nat → Prop} {l : List Nat} {B h : Nat} {σ : MS}
theorem u_newAtom {m a : Nat} (hS : HS g l B h σ) (h56 : σ.1 56 = 0) (hr : h + 5 ≤ B + 870000) (ha : a ≤ 1000000) (h95 : σ.1 95 = nI a) (L : Nat → Int32) : Um m (fun k => x_newAtom k 0 L σ) (fun r => (a = 1000000 ∧ r = (0, mEr σ 6)) ∨ (a < 1000000 ∧ NwO h 3 1 1 0 (fun _ => nI (a + 1)) r ∧ r.2.1 95 = nI (a + 1))) := by
  have hb := HS_b hS
  have hB := hS.2.1
  refine Um_suc rfl (fun k => by rw [x_newAtom]) (fun m1 _ => ?_)
  rw [h95]
  refine Um_ite (fun w => ?_) (fun w => ?_)
  · refine Um_ob (Um_t (s_fail _ σ) (fun k => f_fail k _ _ _)) (fun r hr => ?_)
    rw [hr]
    exact Um_some (Or.inl ⟨(n_eq (q := 1000000) (by omega) (by decide)).mp w, rfl⟩)
  have hlt : a < 1000000 := by
    by_cases e : a = 1000000
    · exact absurd (by rw [e]; rfl) w
    · omega
  refine Um_suc rfl (fun k => by rw [x_newAtom]) (fun m2 _ => ?_)
  rw [h95, n_add1]
  show Um m2 (fun k => x_newAtom k 2 L (mSc σ 95 (nI (a + 1)))) _
  have hS1 : HS g l B h (mSc σ 95 (nI (a + 1))) := HS_c hS rfl rfl rfl
  have h56' : (mSc σ 95 (nI (a + 1))).1 56 = 0 := h56
  have q95 : (mSc σ 95 (nI (a + 1))).1 95 = nI (a + 1) := rfl
  generalize mSc σ 95 (nI (a + 1)) = ρ at hS1 h56' q95
  refine Um_suc rfl (fun k => by rw [x_newAtom]) (fun m3 _ => ?_)
  refine Um_ob (u_make hS1 (n := 1) (by omega) (by omega) rfl) (fun r hr => ?_)
  rw [hr]
  refine Um_ite (fun _ => ?_) (fun w => absurd (by rw [mMk_s (by decide), h56']; decide) w)
  have e28 := mMk_28 (σ := ρ) (h := h) (k := (upd (upd (fun _ => 0) 1 3) 2 1 : Nat → Int32) 1) (n := 1)
  have e55 : (mMk ρ h ((upd (upd (fun _ => 0) 1 3) 2 1 : Nat → Int32) 1) 1).1 55 = nI (h + (4 + 1)) := rfl
  have e56 : (mMk ρ h ((upd (upd (fun _ => 0) 1 3) 2 1 : Nat → Int32) 1) 1).1 56 = 0 := (mMk_s (by decide)).trans h56'
  have e95 : (mMk ρ h ((upd (upd (fun _ => 0) 1 3) 2 1 : Nat → Int32) 1) 1).1 95 = nI (a + 1) := (mMk_s (by decide)).trans q95
  generalize mMk ρ h ((upd (upd (fun _ => 0) 1 3) 2 1 : Nat → Int32) 1) 1 = τ at e28 e55 e56 e95
  refine Um_suc rfl (fun k => by rw [x_newAtom]) (fun m4 _ => ?_)
  rw [show upd L 1 (nI h) 1 = nI h from upd_same, show nI h + 4 = nI (h + 4) from n_add (q := 4) (by omega), n_cl (p := h + 4) (by omega), e95]
  refine Um_chk (fun _ => ?_)
  show Um m4 (fun k => x_newAtom k 4 (upd L 1 (nI h)) (mAr τ 28 (h + 4) (nI (a + 1)))) _
  refine Um_suc rfl (fun k => by rw [x_newAtom]) (fun m5 _ => ?_)
  have f28 : (mAr τ 28 (h + 4) (nI (a + 1))).2.2 28 = upd (τ.2.2 28) (h + 4) (nI (a + 1)) := by rw [mAr_s]
  refine Um_some (Or.inr ⟨hlt, ⟨(upd_same : upd L 1 (nI h) 1 = nI h), e55, e56, ?_, ?_, ?_, ?_, fun i hi => ?_⟩, e95⟩)
  · show (mAr τ 28 (h + 4) (nI (a + 1))).2.2 28 h = _
    rw [f28, upd_other (by omega), e28, upd_other (by omega), upd_other (by omega), upd_other (by omega), upd_same]; rfl
  · show (mAr τ 28 (h + 4) (nI (a + 1))).2.2 28 (h + 1) = _
    rw [f28, upd_other (by omega), e28, upd_other (by omega), upd_other (by omega), upd_same]
  · show (mAr τ 28 (h + 4) (nI (a + 1))).2.2 28 (h + 2) = _
    rw [f28, upd_other (by omega), e28, upd_other (by omega), upd_same]; rfl
  · show (mAr τ 28 (h + 4) (nI (a + 1))).2.2 28 (h + 3) = _
    rw [f28, upd_other (by omega), e28, upd_same]; rfl
  · show (mAr τ 28 (h + 4) (nI (a + 1))).2.2 28 (h + 4 + i) = _
    have : i = 0 := by omega
    rw [this, f28, Nat.add_zero, upd_same]
end KAT
section KA2
variable {g1 g2 : Nat → Prop} {l1 l2 : List Nat} {B1 h1 B2 h2 n : Nat} {σ1 σ2 : MS}
theorem k_newAtom {a : Nat} (hS1 : HS g1 l1 B1 h1 σ1) (hS2 : HS g2 l2 B2 h2 σ2) (e1 : σ1.1 56 = 0) (e2 : σ2.1 56 = 0) (hr1 : h1 + 5 ≤ B1 + 870000) (hr2 : h2 + 5 ≤ B2 + 870000) (ha : a ≤ 1000000) (x1 : σ1.1 95 = nI a) (x2 : σ2.1 95 = nI a) (L1 L2 : Nat → Int32) : Pm n (fun k => x_newAtom k 0 L1 σ1) (fun k => x_newAtom k 0 L2 σ2) (fun r1 r2 => KQ h1 h2 5 r1 r2 ∧ r1.2.1 95 = r2.2.1 95) := by
  have hb1 := HS_b hS1
  have hb2 := HS_b hS2
  have y1 := hS1.2.1
  have y2 := hS2.2.1
  refine Pm_mono (Pm_u2 (u_newAtom hS1 e1 hr1 ha x1 L1) (u_newAtom hS2 e2 hr2 ha x2 L2)) (fun r1 r2 hr => ?_)
  rcases hr with ⟨⟨p1, p2⟩ | ⟨p1, p2, p3⟩, ⟨q1, q2⟩ | ⟨q1, q2, q3⟩⟩
  · rw [p2, q2]
    exact ⟨k_er (by decide) hS1 hS2, by show (mEr σ1 6).1 95 = (mEr σ2 6).1 95; rw [mEr_s (by decide), mEr_s (by decide), x1, x2]⟩
  · omega
  · omega
  · exact ⟨NwO_ev (by omega) (by omega) (by omega) (by omega) (by omega) (by omega) (by omega) p2 q2 (fun i hi => rfl), p3.trans q3.symm⟩
end KA2
