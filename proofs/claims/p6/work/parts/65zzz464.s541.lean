/-! The class: the machine over code that grew; what parsing leaves of the machine. -/
section DYQ
variable {σ σ' : CS} {c c1 c2 : Ct} {g : Nat → Prop} {l : List Nat} {t B f0 u0 : Nat} {K K2 K3 K4 KB : Nat → Option Int32}
/-- the same units, more code -/
def CtX (c1 c2 : Ct) : Prop := tcP c2 = tcP c1 ∧ tcF c2 = tcF c1 ∧ tcK c2 = tcK c1 ∧ ∀ p x, tcD c1 p = some x → tcD c2 p = some x
theorem CtX_S (x : CtX c1 c2) {u : Nat} (h : tcS c1 u) : tcS c2 u := ⟨by rw [x.2.2.1]; exact h.1, h.2⟩
theorem FC_m (x : CtX c1 c2) : ∀ (fs : List FrT) (fp u pb nf nc sq : Nat), FC c1 K K4 f0 u0 fs fp u pb nf nc sq → FC c2 K K4 f0 u0 fs fp u pb nf nc sq
  | [], fp, u, pb, nf, nc, sq, h => h
  | q :: fs, fp, u, pb, nf, nc, sq, h => by
    have ih := FC_m x fs
    obtain ⟨⟨bk, rb, z2, z3, a, b, s, f1, f2, f3, kk⟩, w⟩ := h
    obtain ⟨hP, hF, hK, hD⟩ := id x
    refine ⟨⟨bk, rb, z2, z3, a, b, s, by rw [hF]; exact f1, by rw [hP, hF]; exact f2, f3, ?_⟩, ih _ _ _ _ _ _ w⟩
    rcases kk with ⟨k1, k2, k3⟩ | ⟨k1, k2, k3, k4, k5⟩
    · exact Or.inl ⟨by rw [hK]; exact k1, hD _ _ k2, k3⟩
    · exact Or.inr ⟨CtX_S x k1, CtX_S x k2, k3, by rw [hP]; exact hD _ _ k4, k5⟩
theorem RUN_m (x : CtX c1 c2) {pc fp sp nc m : Nat} (h : RUN c1 K pc fp sp nc m) : RUN c2 K pc fp sp nc m := by
  obtain ⟨u, d, rk, sq, fs, ms, ⟨h1, h1'⟩, h2, h3, h4, h5, h6, h7, h8, h9, h10, h11⟩ := h
  exact ⟨u, d, rk, sq, fs, ms, ⟨x.2.2.2 _ _ h1, h1'⟩, h2, h3, h4, by rw [x.2.1]; exact h5, CtX_S x h6, h7, FC_m x _ _ _ _ _ _ _ h8, h9, h10, by rw [x.2.1]; exact h11⟩
theorem POK_m (x : CtX c1 c2) {N : Nat} : ∀ (n top : Nat), POK c1 K N n top → POK c2 K N n top
  | 0, top, h => trivial
  | n + 1, top, h => by
    obtain ⟨off, pc, fp, sp, nc, z4, z5, h1, h2, h3, h4, h5⟩ := h
    exact ⟨off, pc, fp, sp, nc, z4, z5, h1, h2, h3, RUN_m x h4, POK_m x n off h5⟩
/-- what parsing leaves of the machine -/
def PFm (σ σ' : CS) : Prop := ((∀ j, j < 3700 → ¬ j = 404 → σ'.1 j = σ.1 j) ∧ ∀ j, j < 3700 → σ'.2.1 j = σ.2.1 j) ∧ (∀ k, k = 1 ∨ k = 2 ∨ k = 3 ∨ k = 13 ∨ (20 ≤ k ∧ k ≤ 27) ∨ k = 66 ∨ k = 67 → σ'.2.2.1 k = σ.2.2.1 k ∧ sN σ' k = sN σ k) ∧ σ'.2.2.2.2.2.2 = σ.2.2.2.2.2.2
theorem PFm_pi (f : PFm σ σ') : sPi σ' = sPi σ := f.2.2
theorem SvR_mx (x : CtX c1 c2) (f : PFm σ σ') {p s : Nat} (hp : p < 9) (h : SvR c1 K σ p s) : SvR c2 K σ' p s := by
  obtain ⟨⟨f1, f1'⟩, f2, f3⟩ := f
  have e : ∀ i, i < 16 → σ'.1 (100 * (28 + p) + i) = σ.1 (100 * (28 + p) + i) := fun i hi => f1 _ (by omega) (by omega)
  have n20 := (f2 20 (by omega)).2
  have n21 := (f2 21 (by omega)).2
  unfold SvR at h ⊢
  rw [e 0 (by omega), e 1 (by omega), e 2 (by omega), e 8 (by omega), e 7 (by omega), e 5 (by omega), e 13 (by omega), e 12 (by omega), e 14 (by omega), e 15 (by omega), n20, n21]
  exact ⟨RUN_m x h.1, h.2.1, h.2.2.1, POK_m x _ _ h.2.2.2⟩
theorem SVB_m (f : PFm σ σ') (hp : ∀ i, i < 9 → sPi σ i < 9) (h8 : uN (σ.1 2404) ≤ 8) (h : SVB σ) : SVB σ' := by
  have pi := PFm_pi f
  obtain ⟨⟨f1, f1'⟩, f2, f3⟩ := f
  have e : ∀ i, i < 9 → σ'.1 (100 * (28 + sPi σ i) + 3) = σ.1 (100 * (28 + sPi σ i) + 3) := fun i hi => f1 _ (by have := hp i hi; omega) (by omega)
  obtain ⟨h1, h2⟩ := h
  refine ⟨fun i hi => ?_, fun z => ?_⟩
  · rw [f1 2404 (by decide) (by decide)] at hi
    obtain ⟨k1, k2, k3⟩ := h1 i hi
    rw [pi, e i (by omega), f1 2407 (by decide) (by decide)]
    refine ⟨k1, k2, fun k h3 h4 => ?_⟩
    rw [f1 2404 (by decide) (by decide)] at h4
    rw [e k (by omega)]
    exact k3 k h3 h4
  · rw [f1 2405 (by decide) (by decide)] at z
    rw [pi, e 8 (by omega)]
    exact h2 z
theorem SVK_m (x : CtX c1 c2) (f : PFm σ σ') (h : SVK c1 K σ) : SVK c2 K σ' := by
  have pi := PFm_pi f
  have f0 := f
  obtain ⟨⟨f1, f1'⟩, f2, f3⟩ := f
  obtain ⟨⟨⟨h1, h2⟩, h3⟩, h4, h5, h6, h7⟩ := h
  have e : ∀ i k, i < 9 → k < 16 → σ'.1 (100 * (28 + sPi σ i) + k) = σ.1 (100 * (28 + sPi σ i) + k) := fun i k hi hk => f1 _ (by have := h4 i hi; omega) (by omega)
  have r27 := (f2 27 (by omega)).1
  have e4 := f1 2404 (by decide) (by decide)
  have e3 := f1 2403 (by decide) (by decide)
  have e5 := f1 2405 (by decide) (by decide)
  refine ⟨⟨⟨by rw [e4]; exact h1, by rw [e3]; exact h2⟩, SVB_m f0 h4 h1 h3⟩, by rw [pi]; exact h4, by rw [pi]; exact h5, fun i hi => ?_, fun z => ?_⟩
  · rw [e4] at hi
    obtain ⟨k1, k2, k3⟩ := h6 i hi
    rw [pi, r27, e i 2 (by omega) (by omega), e i 13 (by omega) (by omega), e3, e4]
    exact ⟨SvR_mx x f0 (h4 i (by omega)) k1, k2, k3⟩
  · rw [e5] at z
    obtain ⟨k1, k2, k3⟩ := h7 z
    rw [pi, r27, e 8 2 (by omega) (by omega), e 8 13 (by omega) (by omega), e3]
    exact ⟨SvR_mx x f0 (h4 8 (by omega)) k1, k2, k3⟩
theorem HQ_m (f : PFm σ σ') (h : HQ g l t σ) : HQ g l t σ' := by
  obtain ⟨⟨f1, f1'⟩, f2, f3⟩ := f
  unfold HQ at h ⊢
  rw [f1 1 (by decide) (by decide), (f2 3 (by omega)).2, (f2 1 (by omega)).2, (f2 2 (by omega)).2, (f2 3 (by omega)).1]
  exact h
theorem usI_m (f : PFm σ σ') (h8 : sPi σ 8 < 9) : usI σ' = usI σ := by
  have pi := PFm_pi f
  obtain ⟨⟨f1, f1'⟩, f2, f3⟩ := f
  unfold usI
  rw [pi, f1 2405 (by decide) (by decide), f1 2403 (by decide) (by decide), f1 (100 * (28 + sPi σ 8) + 2) (by omega) (by omega), f1 (100 * (28 + sPi σ 8) + 13) (by omega) (by omega)]
theorem VI_m (f : PFm σ σ') (h : VI g K K2 K3 K4 σ) : VI g K K2 K3 K4 σ' := by
  have us := usI_m f h.2.2.2.2.1
  have pi := PFm_pi f
  obtain ⟨⟨f1, f1'⟩, f2, f3⟩ := f
  unfold VI at h ⊢
  rw [us, pi, f1 1902 (by decide) (by decide), f1 1913 (by decide) (by decide), (f2 20 (by omega)).2, (f2 21 (by omega)).2, (f2 26 (by omega)).2, (f2 3 (by omega)).1, (f2 20 (by omega)).1, (f2 23 (by omega)).1, (f2 21 (by omega)).1, (f2 67 (by omega)).1, (f2 26 (by omega)).1]
  exact h
theorem BY_m (f : PFm σ σ') {P : Prop} (h : BY P σ) : BY P σ' := by
  obtain ⟨⟨f1, f1'⟩, f2, f3⟩ := f
  unfold BY at h ⊢
  rw [(f2 13 (by omega)).1, (f2 22 (by omega)).1, (f2 66 (by omega)).1, (f2 22 (by omega)).2, (f2 66 (by omega)).2, f1 1812 (by decide) (by decide), f1 1813 (by decide) (by decide), f1 1907 (by decide) (by decide)]
  exact h
theorem MIn_m (x : CtX c1 c2) (f : PFm σ σ') (ct : CtL c2 σ') (h : MIn c1 g l t K K2 K3 K4 B KB σ) : MIn c2 g l t K K2 K3 K4 B KB σ' := by
  obtain ⟨h1, h2, h3, h4, h5, h6, h7, h8, h9, h10, h11⟩ := h
  have f0 := f
  obtain ⟨⟨f1, f1'⟩, f2, f3⟩ := f
  refine ⟨HQ_m f0 h1, VI_m f0 h2, ct, ?_, SVK_m x f0 h5, h6, ?_, ?_, ?_, ?_, ?_⟩
  · rw [(f2 20 (by omega)).2, f1 1912 (by decide) (by decide), f1 1913 (by decide) (by decide)]
    exact POK_m x _ _ h4
  · rw [x.2.1, f1 1902 (by decide) (by decide)]; exact h7
  · rw [f1 1903 (by decide) (by decide), f1 1814 (by decide) (by decide)]; exact h8
  · rw [f1 1912 (by decide) (by decide)]; exact h9
  · rw [f1 1914 (by decide) (by decide)]; exact h10
  · rw [f1 1915 (by decide) (by decide)]; exact h11
theorem Mst_m (x : CtX c1 c2) (f : PFm σ σ') (ct : CtL c2 σ') (h : Mst c1 σ) : Mst c2 σ' := by
  obtain ⟨h1, h2, g, l, t, K, K2, K3, K4, mi, rn⟩ := h
  have f0 := f
  obtain ⟨⟨f1, f1'⟩, f2, f3⟩ := f
  refine ⟨BY_m f0 h1, by rw [f1 1902 (by decide) (by decide)]; exact h2, g, l, t, K, K2, K3, K4, ?_, fun z => ?_⟩
  · rw [x.2.1]
    exact MIn_m x f0 ct mi
  · rw [f1 1907 (by decide) (by decide)] at z
    rw [f1 1905 (by decide) (by decide), f1 1900 (by decide) (by decide), f1 1901 (by decide) (by decide), f1 1902 (by decide) (by decide), f1 1908 (by decide) (by decide)]
    exact ⟨(rn z).1, RUN_m x (rn z).2⟩
/-- values and the machine's rows, run or none -/
def Hmx (σ : CS) : Prop := ∃ (g : Nat → Prop) (l : List Nat) (t : Nat) (K4 : Nat → Option Int32), Hmb g l t K4 σ
theorem Hmx_m (f : PFm σ σ') (h : Hmx σ) : Hmx σ' := by
  obtain ⟨g, l, t, K4, h1, ⟨h2, h2', h2''⟩, h3, h4, h5, h6, h7⟩ := h
  have pi := PFm_pi f
  have f0 := f
  obtain ⟨⟨f1, f1'⟩, f2, f3⟩ := f
  refine ⟨g, l, t, K4, HQ_m f0 h1, ⟨by rw [(f2 20 (by omega)).2]; exact h2, by rw [(f2 21 (by omega)).2]; exact h2', by rw [f1 1814 (by decide) (by decide)]; exact h2''⟩, by rw [(f2 3 (by omega)).1, (f2 23 (by omega)).1]; exact h3, by rw [(f2 3 (by omega)).1, (f2 67 (by omega)).1]; exact h4, by rw [(f2 26 (by omega)).2]; exact h5, by rw [pi]; exact h6, by rw [pi]; exact h7⟩
theorem Hmx_of (h : Mst c σ) : Hmx σ := by
  obtain ⟨h1, h2, g, l, t, K, K2, K3, K4, mi, rn⟩ := h
  obtain ⟨m1, ⟨⟨v1, v2, v3⟩, v4, ⟨v5, v6, v7⟩, v8, v9, v10, v11, v12⟩, m3, m4, m5, m6, m7, m8, m9⟩ := mi
  exact ⟨g, l, t, K4, m1, ⟨v2, v6, by omega⟩, v4, v8, v11, m5.2.1, m5.2.2.1⟩
end DYQ
