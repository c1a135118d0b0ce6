/-! Statements on both sides (reference): print. -/
/-- what printing leaves -/
def OuF (σ ρ : MS) : Prop := (∀ j, j ≠ 84 → j ≠ 93 → j ≠ 106 → ρ.1 j = σ.1 j) ∧ (∀ a, a ≠ 42 → a ≠ 48 → a ≠ 49 → a ≠ 52 → ρ.2.2 a = σ.2.2 a) ∧ ρ.2.1 = σ.2.1
theorem OuF_rf {σ : MS} : OuF σ σ := ⟨fun _ _ _ _ => rfl, fun _ _ _ _ _ => rfl, rfl⟩
theorem OuF_tr {σ τ ρ : MS} (a : OuF σ τ) (b : OuF τ ρ) : OuF σ ρ := ⟨fun j h1 h2 h3 => (b.1 j h1 h2 h3).trans (a.1 j h1 h2 h3), fun x h1 h2 h3 h4 => (b.2.1 x h1 h2 h3 h4).trans (a.2.1 x h1 h2 h3 h4), b.2.2.trans a.2.2⟩
section OUF
variable {T : Nat → Nat → Int32} {FN : Nat → Nat → Prop} {S : Nat → Nat → Nat → Nat → Prop} {t w XC : Nat} {σ ρ τ1 τ2 ρ1 ρ2 σ1 σ2 : MS}
theorem RtP_o (h : OuF σ ρ) (a i : Nat) : RtP t ρ a i ↔ RtP t σ a i := RtP_b (σ := σ) (τ := ρ) (h.1 63 (by decide) (by decide) (by decide)) (h.1 72 (by decide) (by decide) (by decide)) (by rw [h.2.1 30 (by decide) (by decide) (by decide) (by decide)]) (by rw [h.2.1 30 (by decide) (by decide) (by decide) (by decide)]) (h.2.1 31 (by decide) (by decide) (by decide) (by decide)) a i
theorem MI_o {X B h : Nat} {g : Nat → Prop} {l : List Nat} (hO : OuF σ ρ) (hM : MI t X g l B h σ) : MI t X g l B h ρ := by
  have r : ∀ a, a ≠ 42 → a ≠ 48 → a ≠ 49 → a ≠ 52 → ρ.2.2 a = σ.2.2 a := hO.2.1
  refine MI_re hM (hO.1 54 (by decide) (by decide) (by decide)) (hO.1 55 (by decide) (by decide) (by decide)) (r 28 (by decide) (by decide) (by decide) (by decide)) (RtQ_b (σ := σ) (τ := ρ) (hO.1 63 (by decide) (by decide) (by decide)) (hO.1 72 (by decide) (by decide) (by decide)) (by rw [r 30 (by decide) (by decide) (by decide) (by decide)]) (by rw [r 30 (by decide) (by decide) (by decide) (by decide)]) (r 31 (by decide) (by decide) (by decide) (by decide)) hM.2.1) (fun a i z => ?_)
  have z := (RtP_o hO a i).mp z
  have ha : a ≠ 42 ∧ a ≠ 48 ∧ a ≠ 49 ∧ a ≠ 52 := by
    unfold RtP at z
    rcases z with z | z | z | z | z | z | z | z | z
    · have := z.1; omega
    · have := z.1; omega
    · have := z.1; omega
    · have := z.1; omega
    · have := z.1; omega
    · have := z.1; omega
    · have := z.1; omega
    · have := z.1; omega
    · have := z.1; omega
  rw [r a ha.1 ha.2.1 ha.2.2.1 ha.2.2.2]; exact MI_rt hM z
theorem EI_o (h1 : OuF τ1 ρ1) (h2 : OuF τ2 ρ2) (h6 : ρ1.1 106 = ρ2.1 106) (hE : EI t w XC τ1 τ2) : EI t w XC ρ1 ρ2 := by
  obtain ⟨g1, l1', B1, hh1, X1, g2, l2', B2, hh2, X2, m1, m2, hR, i1, i2, t1, e1, e2, w1, hw, x1, x2, ⟨ty1, ty2⟩, a, a1, a2⟩ := hE
  have r1 : ∀ a, a ≠ 42 → a ≠ 48 → a ≠ 49 → a ≠ 52 → ρ1.2.2 a = τ1.2.2 a := h1.2.1
  have r2 : ∀ a, a ≠ 42 → a ≠ 48 → a ≠ 49 → a ≠ 52 → ρ2.2.2 a = τ2.2.2 a := h2.2.1
  refine ⟨g1, l1', B1, hh1, X1, g2, l2', B2, hh2, X2, MI_o h1 m1, MI_o h2 m2, ⟨fun x i z hv => ?_, fun x i hx hz hn => ?_, fun j hj => ?_, ?_⟩, IT_c (h1.1 72 (by decide) (by decide) (by decide)) (r1 34 (by decide) (by decide) (by decide) (by decide)) (r1 35 (by decide) (by decide) (by decide) (by decide)) (r1 28 (by decide) (by decide) (by decide) (by decide)) i1, IT_c (h2.1 72 (by decide) (by decide) (by decide)) (r2 34 (by decide) (by decide) (by decide) (by decide)) (r2 35 (by decide) (by decide) (by decide) (by decide)) (r2 28 (by decide) (by decide) (by decide) (by decide)) i2, (h1.1 59 (by decide) (by decide) (by decide)).trans t1, (h1.1 56 (by decide) (by decide) (by decide)).trans e1, (h2.1 56 (by decide) (by decide) (by decide)).trans e2, (h1.1 57 (by decide) (by decide) (by decide)).trans w1, hw, x1, x2, ⟨by rw [r1 2 (by decide) (by decide) (by decide) (by decide)]; exact ty1, by rw [r1 2 (by decide) (by decide) (by decide) (by decide), r2 2 (by decide) (by decide) (by decide) (by decide)]; exact ty2⟩, a, (h1.1 95 (by decide) (by decide) (by decide)).trans a1, a2⟩
  · have z := (RtP_o h1 x i).mp z
    have hx : x ≠ 42 ∧ x ≠ 48 ∧ x ≠ 49 ∧ x ≠ 52 := by
      unfold RtP at z
      rcases z with z | z | z | z | z | z | z | z | z
      · have := z.1; omega
      · have := z.1; omega
      · have := z.1; omega
      · have := z.1; omega
      · have := z.1; omega
      · have := z.1; omega
      · have := z.1; omega
      · have := z.1; omega
      · have := z.1; omega
    rw [r1 28 (by decide) (by decide) (by decide) (by decide), r2 28 (by decide) (by decide) (by decide) (by decide), r1 x hx.1 hx.2.1 hx.2.2.1 hx.2.2.2, r2 x hx.1 hx.2.1 hx.2.2.1 hx.2.2.2]
    exact hR.1 x i z hv
  · have hx' : x ≠ 42 ∧ x ≠ 48 ∧ x ≠ 49 ∧ x ≠ 52 := by unfold AlR at hx; omega
    rw [r1 x hx'.1 hx'.2.1 hx'.2.2.1 hx'.2.2.2, r2 x hx'.1 hx'.2.1 hx'.2.2.1 hx'.2.2.2]
    refine hR.2.1 x i hx hz (fun y => hn ((InA_c (σ := τ1) (ρ := ρ1) (h1.1 63 (by decide) (by decide) (by decide)) (h1.1 72 (by decide) (by decide) (by decide)) (h1.1 22 (by decide) (by decide) (by decide)) (h1.1 24 (by decide) (by decide) (by decide)) (h1.1 30 (by decide) (by decide) (by decide)) (h1.1 44 (by decide) (by decide) (by decide)) (fun u _ => by rw [r1 21 (by decide) (by decide) (by decide) (by decide)]) (fun k _ => ?_) (fun p _ k _ => ?_) x i).mpr y))
    · rw [r1 30 (by decide) (by decide) (by decide) (by decide)]
    · rw [r1 31 (by decide) (by decide) (by decide) (by decide)]
  · by_cases e : j = 106
    · rw [e]; exact h6
    · rw [h1.1 j (by unfold AlS at hj; omega) (by unfold AlS at hj; omega) e, h2.1 j (by unfold AlS at hj; omega) (by unfold AlS at hj; omega) e]; exact hR.2.2.1 j hj
  · rw [h1.2.2, h2.2.2]; exact hR.2.2.2
theorem UT_o (h : OuF σ ρ) (hU : UT σ) : UT ρ := by
  have r : ∀ a, a ≠ 42 → a ≠ 48 → a ≠ 49 → a ≠ 52 → ρ.2.2 a = σ.2.2 a := h.2.1
  unfold UT StS PtS NUo ItP szV at hU ⊢
  rw [kC_r (r 20 (by decide) (by decide) (by decide) (by decide)) (r 21 (by decide) (by decide) (by decide) (by decide)) (h.1 30 (by decide) (by decide) (by decide)), r 28 (by decide) (by decide) (by decide) (by decide), r 30 (by decide) (by decide) (by decide) (by decide), r 31 (by decide) (by decide) (by decide) (by decide), r 32 (by decide) (by decide) (by decide) (by decide), r 33 (by decide) (by decide) (by decide) (by decide), h.1 63 (by decide) (by decide) (by decide), h.1 64 (by decide) (by decide) (by decide), h.1 65 (by decide) (by decide) (by decide)]
  exact hU
theorem Bs_o (h : OuF σ ρ) (hB : Bs T FN σ) : Bs T FN ρ := by
  have r : ∀ a, a ≠ 42 → a ≠ 48 → a ≠ 49 → a ≠ 52 → ρ.2.2 a = σ.2.2 a := h.2.1
  obtain ⟨b0, b2, b3, b4, b5, b6, b7⟩ := hB
  exact ⟨STb_b b0 (fun j hj => h.1 j (by omega) (by omega) (by omega)) (fun a i q => by rw [r a (by omega) (by omega) (by omega) (by omega)]), fun a i h1 h2 h3 => by rw [r a (by omega) (by omega) (by omega) (by omega)]; exact b2 a i h1 h2 h3, (h.1 67 (by decide) (by decide) (by decide)).trans b3, (h.1 97 (by decide) (by decide) (by decide)).trans b4, (h.1 72 (by decide) (by decide) (by decide)).trans b5, (h.1 69 (by decide) (by decide) (by decide)).trans b6, fun i => (congrFun (kC_r (r 20 (by decide) (by decide) (by decide) (by decide)) (r 21 (by decide) (by decide) (by decide) (by decide)) (h.1 30 (by decide) (by decide) (by decide))) i).trans (b7 i)⟩
theorem Mid_o (h1 : OuF τ1 ρ1) (h2 : OuF τ2 ρ2) (h6 : ρ1.1 106 = ρ2.1 106) (ho : Ou6 ρ1) (hM : Mid T FN S t w XC σ1 σ2 τ1 τ2) : Mid T FN S t w XC σ1 σ2 ρ1 ρ2 := by
  obtain ⟨hE, U1, U2, B1, B2, kp, pq, _⟩ := hM
  refine ⟨EI_o h1 h2 h6 hE, UT_o h1 U1, UT_o h2 U2, Bs_o h1 B1, Bs_o h2 B2, fun j hj => ⟨(h1.1 j (by omega) (by omega) (by omega)).trans (kp j hj).1, (h2.1 j (by omega) (by omega) (by omega)).trans (kp j hj).2⟩, ?_, ho⟩
  unfold PtQ
  rw [h1.2.1 31 (by decide) (by decide) (by decide) (by decide), h1.1 63 (by decide) (by decide) (by decide)]
  exact pq
theorem Pos_o {c un d v n : Nat} {F : List Nat} (h : OuF σ ρ) (hP : Pos T S c un d v n F σ) : Pos T S c un d v n F ρ := by
  have r30 := h.2.1 30 (by decide) (by decide) (by decide) (by decide)
  have r28 := h.2.1 28 (by decide) (by decide) (by decide) (by decide)
  unfold Pos ItS szV at hP ⊢
  rw [r30, r28]; exact hP
end OUF
/-- a byte is put out -/
theorem s_putOut {σ : MS} {o : Nat} (h : σ.1 106 = nI o) (ho : o ≤ 2000000000) (L : Nat → Int32) : Tm (fun k => x_putOut k 0 L σ) (fun r => (∀ j, j ≠ 106 → r.2.1 j = σ.1 j) ∧ (∀ a, a ≠ 52 → r.2.2.2 a = σ.2.2 a) ∧ r.2.2.1 = σ.2.1 ∧ r.2.1 106 = nI (if 2000000000 ≤ o then o else o + 1)) := by
  have b3 : ∀ (τ : MS) (N : Nat → Int32) (e : Nat), (∀ j, j ≠ 106 → τ.1 j = σ.1 j) → (∀ a, a ≠ 52 → τ.2.2 a = σ.2.2 a) → τ.2.1 = σ.2.1 → N 101 = nI o → N 100 = nI e → o + e = (if 2000000000 ≤ o then o else o + 1) → Tm (fun k => x_putOut k 3 N τ) (fun r => (∀ j, j ≠ 106 → r.2.1 j = σ.1 j) ∧ (∀ a, a ≠ 52 → r.2.2.2 a = σ.2.2 a) ∧ r.2.2.1 = σ.2.1 ∧ r.2.1 106 = nI (if 2000000000 ≤ o then o else o + 1)) := by
    intro τ N e s r l n1 n0 he
    have eb : o + e ≤ 2000000001 := by
      rw [he]
      by_cases z : 2000000000 ≤ o
      · rw [if_pos z]; omega
      · rw [if_neg z]; omega
    refine Tm_suc (fun k => by rw [x_putOut]) ?_
    rw [n1, n0, n_add (by omega), he]
    exact Tm_some ⟨fun j hj => (upd_other hj).trans (s j hj), r, l, rfl⟩
  have b1 : ∀ (τ : MS), (∀ j, τ.1 j = σ.1 j) → (∀ a, a ≠ 52 → τ.2.2 a = σ.2.2 a) → τ.2.1 = σ.2.1 → Tm (fun k => x_putOut k 1 L τ) (fun r => (∀ j, j ≠ 106 → r.2.1 j = σ.1 j) ∧ (∀ a, a ≠ 52 → r.2.2.2 a = σ.2.2 a) ∧ r.2.2.1 = σ.2.1 ∧ r.2.1 106 = nI (if 2000000000 ≤ o then o else o + 1)) := by
    intro τ s r l
    refine Tm_suc (fun k => by rw [x_putOut]) ?_
    rw [s 106, h]
    refine Tm_ite (fun z => ?_) (fun z => ?_)
    · have z := (n_le (p := 2000000000) (by decide) (by omega)).mp z
      refine Tm_suc (fun k => by rw [x_putOut]) ?_
      exact b3 τ _ 0 (fun j _ => s j) r l rfl rfl (by rw [if_pos z]; rfl)
    · have z : ¬ 2000000000 ≤ o := fun y => z ((n_le (p := 2000000000) (by decide) (by omega)).mpr y)
      exact b3 τ _ 1 (fun j _ => s j) r l rfl rfl (by rw [if_neg z])
  refine Tm_suc (fun k => by rw [x_putOut]) ?_
  rw [h]
  refine Tm_ite (fun _ => b1 σ (fun _ => rfl) (fun _ _ => rfl) rfl) (fun z => ?_)
  have z : ¬ 60000 ≤ o := fun y => z ((n_le (p := 60000) (by decide) (by omega)).mpr y)
  refine Tm_chk (n_in (by omega) (by omega)) ?_
  rw [n_cl (p := o) (by omega)]
  exact b1 (mAr σ 52 o (L 1)) (fun _ => rfl) (fun a ha => mAr_o ha) rfl
