/-! The class: the machine over less code: what is left out is of unit 41 alone (made by rs560.py). -/
section DZI
variable {σ σ' s : CS} {c c1 c2 : Ct} {g : Nat → Prop} {l : List Nat} {t B f0 u0 : Nat} {K K2 K3 K4 KB : Nat → Option Int32}
def CtL2 (c1 c2 : Ct) : Prop := tcP c2 = tcP c1 ∧ tcF c2 = tcF c1 ∧ tcK c2 = tcK c1 ∧ ¬ tcK c1 41 ∧ ∀ p x, tcD c1 p = some x → x.1 < 41 → tcD c2 p = some x
theorem CtL2_S (x : CtL2 c1 c2) {u : Nat} (h : tcS c1 u) : tcS c2 u := ⟨by rw [x.2.2.1]; exact h.1, h.2⟩
theorem FC_u (k : ¬ tcK c 41) : ∀ (fs : List FrT) (fp u pb nf nc sq : Nat), FC c K K4 f0 0 fs fp u pb nf nc sq → ¬ u = 41
  | [], fp, u, pb, nf, nc, sq, h => by have := h.2.1; omega
  | q :: fs, fp, u, pb, nf, nc, sq, h => by
    obtain ⟨⟨bk, rb, z2, z3, a, b, s, f1, f2, f3, kk⟩, w⟩ := h
    intro e
    rcases kk with ⟨k1, _⟩ | ⟨_, _, k3, _⟩
    · rw [e] at k1; exact k k1
    · omega
theorem FC_n (x : CtL2 c1 c2) : ∀ (fs : List FrT) (fp u pb nf nc sq : Nat), FC c1 K K4 f0 0 fs fp u pb nf nc sq → FC c2 K K4 f0 0 fs fp u pb nf nc sq
  | [], fp, u, pb, nf, nc, sq, h => h
  | q :: fs, fp, u, pb, nf, nc, sq, h => by
    have ih := FC_n x fs
    obtain ⟨⟨bk, rb, z2, z3, a, b, s, f1, f2, f3, kk⟩, w⟩ := h
    obtain ⟨hP, hF, hK, h41, hD⟩ := id x
    have nq := FC_u h41 _ _ _ _ _ _ _ w
    have q41 : q.2.1 < 41 := by have := f3.2; omega
    refine ⟨⟨bk, rb, z2, z3, a, b, s, by rw [hF]; exact f1, by rw [hP, hF]; exact f2, f3, ?_⟩, ih _ _ _ _ _ _ w⟩
    rcases kk with ⟨k1, k2, k3⟩ | ⟨k1, k2, k3, k4, k5⟩
    · exact Or.inl ⟨by rw [hK]; exact k1, hD _ _ k2 q41, k3⟩
    · exact Or.inr ⟨CtL2_S x k1, CtL2_S x k2, k3, by rw [hP]; exact hD _ _ k4 q41, k5⟩
theorem RUN_n (x : CtL2 c1 c2) {pc fp sp nc m : Nat} (h : RUN c1 K pc fp sp nc m) : RUN c2 K pc fp sp nc m := by
  obtain ⟨u, d, rk, sq, fs, ms, ⟨h1, h1'⟩, h2, h3, h4, h5, h6, h7, h8, h9, h10, h11⟩ := h
  exact ⟨u, d, rk, sq, fs, ms, ⟨x.2.2.2.2 _ _ h1 h7, h1'⟩, h2, h3, h4, by rw [x.2.1]; exact h5, CtL2_S x h6, h7, FC_n x _ _ _ _ _ _ _ h8, h9, h10, by rw [x.2.1]; exact h11⟩
theorem POK_n (x : CtL2 c1 c2) {N : Nat} : ∀ (n top : Nat), POK c1 K N n top → POK c2 K N n top
  | 0, top, h => trivial
  | n + 1, top, h => by
    obtain ⟨off, pc, fp, sp, nc, z4, z5, h1, h2, h3, h4, h5⟩ := h
    exact ⟨off, pc, fp, sp, nc, z4, z5, h1, h2, h3, RUN_n x h4, POK_n x n off h5⟩
theorem SvR_nn (x : CtL2 c1 c2) (f : PFx σ σ') {p s : Nat} (hp : p < 9) (h : SvR c1 K σ p s) : SvR c2 K σ' p s := by
  obtain ⟨⟨f1, f1'⟩, f2, f3⟩ := f
  have e : ∀ i, i < 16 → σ'.1 (100 * (28 + p) + i) = σ.1 (100 * (28 + p) + i) := fun i hi => f1 _ (by omega) (by omega)
  have n20 := (f2 20 (by omega)).2
  have n21 := (f2 21 (by omega)).2
  unfold SvR at h ⊢
  rw [e 0 (by omega), e 1 (by omega), e 2 (by omega), e 8 (by omega), e 7 (by omega), e 5 (by omega), e 13 (by omega), e 12 (by omega), e 14 (by omega), e 15 (by omega), n20, n21]
  exact ⟨RUN_n x h.1, h.2.1, h.2.2.1, POK_n x _ _ h.2.2.2⟩
theorem SVK_nn (x : CtL2 c1 c2) (f : PFx σ σ') (h : SVK c1 K σ) : SVK c2 K σ' := by
  have pi := PFx_pi f
  have f0 := f
  obtain ⟨⟨f1, f1'⟩, f2, f3⟩ := f
  obtain ⟨⟨⟨h1, h2⟩, h3⟩, h4, h5, h6, h7⟩ := h
  have e : ∀ i k, i < 9 → k < 16 → σ'.1 (100 * (28 + sPi σ i) + k) = σ.1 (100 * (28 + sPi σ i) + k) := fun i k hi hk => f1 _ (by have := h4 i hi; omega) (by omega)
  have r27 := (f2 27 (by omega)).1
  have e4 := f1 2404 (by decide) (by decide)
  have e3 := f1 2403 (by decide) (by decide)
  have e5 := f1 2405 (by decide) (by decide)
  refine ⟨⟨⟨by rw [e4]; exact h1, by rw [e3]; exact h2⟩, SVB_xx f0 h4 h1 h3⟩, by rw [pi]; exact h4, by rw [pi]; exact h5, fun i hi => ?_, fun z => ?_⟩
  · rw [e4] at hi
    obtain ⟨k1, k2, k3⟩ := h6 i hi
    rw [pi, r27, e i 2 (by omega) (by omega), e i 13 (by omega) (by omega), e3, e4]
    exact ⟨SvR_nn x f0 (h4 i (by omega)) k1, k2, k3⟩
  · rw [e5] at z
    obtain ⟨k1, k2, k3⟩ := h7 z
    rw [pi, r27, e 8 2 (by omega) (by omega), e 8 13 (by omega) (by omega), e3]
    exact ⟨SvR_nn x f0 (h4 8 (by omega)) k1, k2, k3⟩
theorem MsG_nn (x : CtL2 c1 c2) (f : PFx σ σ') (ct : CtL c2 σ') (by0 : BY False σ') (h67 : ∀ i, i < 27 → Gv g (σ'.2.2.1 67 i)) (h : MsG c1 g l t σ) : MsG c2 g l t σ' := by
  obtain ⟨h1, h2, K, K2, K3, K4, mi, rn⟩ := h
  obtain ⟨m1, m2, m3, m4, m5, m6, m7, m8, m9, m10, m11⟩ := mi
  have f0 := f
  obtain ⟨⟨f1, f1'⟩, f2, f3⟩ := f
  refine ⟨by0, by rw [f1 1902 (by decide) (by decide)]; exact h2, K, K2, K3, K4, ⟨HQ_xx f0 m1, VI_xx f0 h67 m2, ct, ?_, SVK_nn x f0 m5, by rw [x.2.1]; exact m6, ?_, ?_, ?_, ?_, ?_⟩, fun z => ?_⟩
  · rw [(f2 20 (by omega)).2, f1 1912 (by decide) (by decide), f1 1913 (by decide) (by decide)]
    exact POK_n x _ _ m4
  · rw [x.2.1, f1 1902 (by decide) (by decide)]; exact m7
  · rw [f1 1903 (by decide) (by decide), f1 1814 (by decide) (by decide)]; exact m8
  · rw [f1 1912 (by decide) (by decide)]; exact m9
  · rw [f1 1914 (by decide) (by decide)]; exact m10
  · rw [f1 1915 (by decide) (by decide)]; exact m11
  · rw [f1 1907 (by decide) (by decide)] at z
    rw [f1 1905 (by decide) (by decide), f1 1900 (by decide) (by decide), f1 1901 (by decide) (by decide), f1 1902 (by decide) (by decide), f1 1908 (by decide) (by decide)]
    exact ⟨(rn z).1, RUN_n x (rn z).2⟩
end DZI
