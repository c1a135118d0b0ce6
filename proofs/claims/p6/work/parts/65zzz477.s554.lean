/-! The house: other values are kept; seen. -/
section DZC
variable {σ σ' s : CS} {ρ τ ω : MS} {b : Bool} {sz j n n2 V : Nat} {XE : XEt} {L : LV} {c c1 c2 : Ct} {gl : List Gn} {pr : Nat → Nat} {g : Nat → Prop} {l : List Nat} {t B f0 u0 : Nat} {K K2 K3 K4 KB : Nat → Option Int32}
/-- the machine is left alone, but for the values that are kept -/
def PFx (σ σ' : CS) : Prop := ((∀ j, j < 3700 → ¬ (j = 404 ∨ j = 1203) → σ'.1 j = σ.1 j) ∧ ∀ j, j < 3700 → σ'.2.1 j = σ.2.1 j) ∧ (∀ k, k = 1 ∨ k = 2 ∨ k = 3 ∨ (20 ≤ k ∧ k ≤ 27) → σ'.2.2.1 k = σ.2.2.1 k ∧ sN σ' k = sN σ k) ∧ σ'.2.2.2.2.2.2 = σ.2.2.2.2.2.2
theorem PFx_pi (f : PFx σ σ') : sPi σ' = sPi σ := f.2.2
theorem SvR_xx (x : CtX c1 c2) (f : PFx σ σ') {p s : Nat} (hp : p < 9) (h : SvR c1 K σ p s) : SvR c2 K σ' p s := by
  obtain ⟨⟨f1, f1'⟩, f2, f3⟩ := f
  have e : ∀ i, i < 16 → σ'.1 (100 * (28 + p) + i) = σ.1 (100 * (28 + p) + i) := fun i hi => f1 _ (by omega) (by omega)
  have n20 := (f2 20 (by omega)).2
  have n21 := (f2 21 (by omega)).2
  unfold SvR at h ⊢
  rw [e 0 (by omega), e 1 (by omega), e 2 (by omega), e 8 (by omega), e 7 (by omega), e 5 (by omega), e 13 (by omega), e 12 (by omega), e 14 (by omega), e 15 (by omega), n20, n21]
  exact ⟨RUN_m x h.1, h.2.1, h.2.2.1, POK_m x _ _ h.2.2.2⟩
theorem SVB_xx (f : PFx σ σ') (hp : ∀ i, i < 9 → sPi σ i < 9) (h8 : uN (σ.1 2404) ≤ 8) (h : SVB σ) : SVB σ' := by
  have pi := PFx_pi f
  obtain ⟨⟨f1, f1'⟩, f2, f3⟩ := f
  have e : ∀ i, i < 9 → σ'.1 (100 * (28 + sPi σ i) + 3) = σ.1 (100 * (28 + sPi σ i) + 3) := fun i hi => f1 _ (by have := hp i hi; omega) (by omega)
  obtain ⟨h1, h2⟩ := h
  refine ⟨fun i hi => ?_, fun z => ?_⟩
  · rw [f1 2404 (by decide) (by decide)] at hi
    obtain ⟨k1, k2, k3⟩ := h1 i hi
    rw [pi, e i (by omega), f1 2407 (by decide) (by decide)]
    refine ⟨k1, k2, fun k h3 h4 => ?_⟩
    rw [f1 2404 (by decide) (by decide)] at h4
    rw [e k (by omega)]
    exact k3 k h3 h4
  · rw [f1 2405 (by decide) (by decide)] at z
    rw [pi, e 8 (by omega)]
    exact h2 z
theorem SVK_xx (x : CtX c1 c2) (f : PFx σ σ') (h : SVK c1 K σ) : SVK c2 K σ' := by
  have pi := PFx_pi f
  have f0 := f
  obtain ⟨⟨f1, f1'⟩, f2, f3⟩ := f
  obtain ⟨⟨⟨h1, h2⟩, h3⟩, h4, h5, h6, h7⟩ := h
  have e : ∀ i k, i < 9 → k < 16 → σ'.1 (100 * (28 + sPi σ i) + k) = σ.1 (100 * (28 + sPi σ i) + k) := fun i k hi hk => f1 _ (by have := h4 i hi; omega) (by omega)
  have r27 := (f2 27 (by omega)).1
  have e4 := f1 2404 (by decide) (by decide)
  have e3 := f1 2403 (by decide) (by decide)
  have e5 := f1 2405 (by decide) (by decide)
  refine ⟨⟨⟨by rw [e4]; exact h1, by rw [e3]; exact h2⟩, SVB_xx f0 h4 h1 h3⟩, by rw [pi]; exact h4, by rw [pi]; exact h5, fun i hi => ?_, fun z => ?_⟩
  · rw [e4] at hi
    obtain ⟨k1, k2, k3⟩ := h6 i hi
    rw [pi, r27, e i 2 (by omega) (by omega), e i 13 (by omega) (by omega), e3, e4]
    exact ⟨SvR_xx x f0 (h4 i (by omega)) k1, k2, k3⟩
  · rw [e5] at z
    obtain ⟨k1, k2, k3⟩ := h7 z
    rw [pi, r27, e 8 2 (by omega) (by omega), e 8 13 (by omega) (by omega), e3]
    exact ⟨SvR_xx x f0 (h4 8 (by omega)) k1, k2, k3⟩
theorem HQ_xx (f : PFx σ σ') (h : HQ g l t σ) : HQ g l t σ' := by
  obtain ⟨⟨f1, f1'⟩, f2, f3⟩ := f
  unfold HQ at h ⊢
  rw [f1 1 (by decide) (by decide), (f2 3 (by omega)).2, (f2 1 (by omega)).2, (f2 2 (by omega)).2, (f2 3 (by omega)).1]
  exact h
theorem usI_xx (f : PFx σ σ') (h8 : sPi σ 8 < 9) : usI σ' = usI σ := by
  have pi := PFx_pi f
  obtain ⟨⟨f1, f1'⟩, f2, f3⟩ := f
  unfold usI
  rw [pi, f1 2405 (by decide) (by decide), f1 2403 (by decide) (by decide), f1 (100 * (28 + sPi σ 8) + 2) (by omega) (by omega), f1 (100 * (28 + sPi σ 8) + 13) (by omega) (by omega)]
theorem Rwk_67 {M : Nat → Int32} {f : Nat → Int32} (h : ∀ i, i < 27 → Gv g (f i)) : Rwk g M KN f 27 := fun i hi => ⟨Or.inl (h i hi), fun _ => h i hi, fun v e => (by cases e)⟩
theorem VI_xx (f : PFx σ σ') (h67 : ∀ i, i < 27 → Gv g (σ'.2.2.1 67 i)) (h : VI g K K2 K3 K4 σ) : VI g K K2 K3 K4 σ' := by
  have us := usI_xx f h.2.2.2.2.1
  have pi := PFx_pi f
  obtain ⟨⟨f1, f1'⟩, f2, f3⟩ := f
  obtain ⟨v1, v2, v3, v4, v5, v6⟩ := h
  refine ⟨?_, ?_, ?_, Rwk_67 h67, by rw [pi]; exact v5, ?_⟩
  · rw [f1 1902 (by decide) (by decide), (f2 20 (by omega)).2, (f2 3 (by omega)).1, (f2 20 (by omega)).1]; exact v1
  · rw [(f2 3 (by omega)).1, (f2 23 (by omega)).1]; exact v2
  · rw [f1 1913 (by decide) (by decide), (f2 21 (by omega)).2, (f2 3 (by omega)).1, (f2 21 (by omega)).1]; exact v3
  · rw [us, (f2 26 (by omega)).2, (f2 3 (by omega)).1, (f2 26 (by omega)).1]; exact v6
theorem MsG_xx (x : CtX c1 c2) (f : PFx σ σ') (ct : CtL c2 σ') (by0 : BY False σ') (h67 : ∀ i, i < 27 → Gv g (σ'.2.2.1 67 i)) (h : MsG c1 g l t σ) : MsG c2 g l t σ' := by
  obtain ⟨h1, h2, K, K2, K3, K4, mi, rn⟩ := h
  obtain ⟨m1, m2, m3, m4, m5, m6, m7, m8, m9, m10, m11⟩ := mi
  have f0 := f
  obtain ⟨⟨f1, f1'⟩, f2, f3⟩ := f
  refine ⟨by0, by rw [f1 1902 (by decide) (by decide)]; exact h2, K, K2, K3, K4, ⟨HQ_xx f0 m1, VI_xx f0 h67 m2, ct, ?_, SVK_xx x f0 m5, by rw [x.2.1]; exact m6, ?_, ?_, ?_, ?_, ?_⟩, fun z => ?_⟩
  · rw [(f2 20 (by omega)).2, f1 1912 (by decide) (by decide), f1 1913 (by decide) (by decide)]
    exact POK_m x _ _ m4
  · rw [x.2.1, f1 1902 (by decide) (by decide)]; exact m7
  · rw [f1 1903 (by decide) (by decide), f1 1814 (by decide) (by decide)]; exact m8
  · rw [f1 1912 (by decide) (by decide)]; exact m9
  · rw [f1 1914 (by decide) (by decide)]; exact m10
  · rw [f1 1915 (by decide) (by decide)]; exact m11
  · rw [f1 1907 (by decide) (by decide)] at z
    rw [f1 1905 (by decide) (by decide), f1 1900 (by decide) (by decide), f1 1901 (by decide) (by decide), f1 1902 (by decide) (by decide), f1 1908 (by decide) (by decide)]
    exact ⟨(rn z).1, RUN_m x (rn z).2⟩
theorem MsG_v (h : MsG c g l t σ) : HQ g l t σ ∧ ∀ i, i < 27 → Gv g (σ.2.2.1 67 i) := by
  obtain ⟨h1, h2, K, K2, K3, K4, mi, rn⟩ := h
  exact ⟨mi.1, fun i hi => (mi.2.1.2.2.2.1 i hi).2.1 rfl⟩
theorem Mst_G (h : Mst c σ) : ∃ g l t, MsG c g l t σ := by
  obtain ⟨h1, h2, g, l, t, K, K2, K3, K4, mi, rn⟩ := h
  exact ⟨g, l, t, h1, h2, K, K2, K3, K4, mi, rn⟩
theorem Mst_of (h : MsG c g l t σ) : Mst c σ := by
  obtain ⟨h1, h2, K, K2, K3, K4, mi, rn⟩ := h
  exact ⟨h1, h2, g, l, t, K, K2, K3, K4, mi, rn⟩
theorem SwF_x (h : SwF σ s) : PFx σ s := ⟨⟨fun j hj n4 => h.1.1 j (by omega), fun j _ => by rw [h.1.2]⟩, fun k hk => ⟨h.2.1.1 k (by omega), h.2.1.2.1 k (by omega)⟩, by rw [h.2.2]⟩
theorem Hmb_xx (f : PFx σ s) (h67 : ∀ i, i < 27 → Gv g (s.2.2.1 67 i)) (h : Hmb g l t K4 σ) : Hmb g l t K4 s := by
  obtain ⟨h1, ⟨h2, h2', h2''⟩, h3, h4, h5, h6, h7⟩ := h
  have pi := PFx_pi f
  have f0 := f
  obtain ⟨⟨f1, f1'⟩, f2, f3⟩ := f
  exact ⟨HQ_xx f0 h1, ⟨by rw [(f2 20 (by omega)).2]; exact h2, by rw [(f2 21 (by omega)).2]; exact h2', by rw [f1 1814 (by decide) (by decide)]; exact h2''⟩, by rw [(f2 3 (by omega)).1, (f2 23 (by omega)).1]; exact h3, Rwk_67 h67, by rw [(f2 26 (by omega)).2]; exact h5, by rw [pi]; exact h6, by rw [pi]; exact h7⟩
/-- the house over a value shown -/
theorem SwF_M (h : SwF σ s) : (∀ i, 3700 ≤ i → ¬ (i = 7517 ∨ i = 7518) → s.1 i = σ.1 i) ∧ (∀ k, k = 38 ∨ (41 ≤ k ∧ k ≤ 65) ∨ (69 ≤ k ∧ k ≤ 74) → s.2.2.1 k = σ.2.2.1 k ∧ sN s k = sN σ k) ∧ (sCur s = sCur σ ∧ sOt s = sOt σ ∧ sPr s = sPr σ ∧ sKd s = sKd σ) := by
  refine ⟨fun i h1 h2 => h.1.1 i (by omega), fun k hk => ⟨h.2.1.1 k (by omega), h.2.1.2.1 k (by omega)⟩, ?_, ?_, ?_, ?_⟩
  · show s.2.2.2.2.2.1.1 = _; rw [h.2.2]
  · show s.2.2.2.2.2.1.2.1 = _; rw [h.2.2]
  · show s.2.2.2.2.2.1.2.2.1 = _; rw [h.2.2]
  · show s.2.2.2.2.2.1.2.2.2.2 = _; rw [h.2.2]
end DZC
