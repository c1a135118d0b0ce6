/-! Going back (reference): the call itself. -/
section BCK
variable {T : Nat → Nat → Int32} {FN : Nat → Nat → Prop} {S : Nat → Nat → Nat → Nat → Prop} {σ ρ : MS} {m m' q : Nat} {R : MS → Prop}
/-- statements are begun until there are as many as asked -/
theorem s_bkL (hm : m' < 2147483000) (hP : ∀ j, j ≤ m' → ∃ r N, (∀ k, N ≤ k → rsB j k σ = some r) ∧ r.2.1 103 = nI j) {N : Nat → Int32} (n2 : N 2 = nI m') : ∀ (d j : Nat) (r : Int32 × MS) (M : Nat), d + j = m' → (∀ k, M ≤ k → rsB j k σ = some r) → r.2.1 103 = nI j → Tm (fun k => x_back k 6 N r.2) (fun s => s.1 = nI m' ∧ ∃ x M', (∀ k, M' ≤ k → rsB m' k σ = some x) ∧ s.2 = x.2) := by
  intro d
  induction d with
  | zero =>
    intro j r M hd h h3
    have e : j = m' := by omega
    subst e
    refine Tm_suc (fun k => by rw [x_back]) ?_
    rw [n2, h3]
    refine Tm_ite (fun _ => ?_) (fun z => absurd (Int32.le_refl _) z)
    refine Tm_suc (fun k => by rw [x_back]) ?_
    exact Tm_some ⟨n2, r, M, h, rfl⟩
  | succ d ih =>
    intro j r M hd h h3
    obtain ⟨r', M', h', h3'⟩ := hP (j + 1) (by omega)
    refine Tm_suc (fun k => by rw [x_back]) ?_
    rw [n2, h3]
    refine Tm_ite (fun z => ?_) (fun _ => ?_)
    · have := (n_le (by omega) (by omega)).mp z
      omega
    refine Tm_chk (by decide) ?_
    rw [show (0 : Int32).toNatClampNeg = 0 from by decide]
    have tb : Tm (fun k => x_begin k 0 (upd (fun _ => 0) 1 (r.2.2.2 30 0)) r.2) (fun s => s = r') := ⟨r', M + M', fun k hk => by
      have x := h' k (by omega)
      rw [rsB_s, h k (by omega)] at x
      exact x, rfl⟩
    refine Tm_ob tb (fun s hs => ?_)
    rw [hs]
    exact ih (j + 1) r' M' (by omega) h' h3'
/-- back by q -/
theorem s_back (hm : m < 2147483000) (hP : ∀ j, j ≤ m → Pmb T FN S R j) (hR : R (mSc σ 2 0)) (h103 : σ.1 103 = nI m) (h112 : ¬ σ.1 112 = 0) (hq : q ≤ m) (hrs : Tm (fun k => x_reset k 0 (fun _ => 0) (mSc σ 2 0)) (fun r => r.2.1 103 = nI 0)) {L : Nat → Int32} (d1 : L 1 = nI q) : Tm (fun k => x_back k 0 L σ) (fun r => r.1 = nI (m - q) ∧ Cur T FN S R (m - q) r.2 ∧ R r.2) := by
  refine Tm_suc (fun k => by rw [x_back]) ?_
  refine Tm_ite (fun z => absurd z h112) (fun _ => ?_)
  refine Tm_suc (fun k => by rw [x_back]) ?_
  rw [d1, h103]
  refine Tm_ite (fun z => ?_) (fun _ => ?_)
  · have := (show nI q < nI 0 ↔ q < 0 from n_lt (by omega) (by omega)).mp z
    omega
  refine Tm_ite (fun _ => ?_) (fun z => absurd ((n_le (by omega) (by omega)).mpr hq) z)
  refine Tm_suc (fun k => by rw [x_back]) ?_
  refine Tm_suc (fun k => by rw [x_back]) ?_
  refine Tm_ob (s_good _ _) (fun r hr => ?_)
  rw [hr]
  refine Tm_ite (fun z => absurd (show (1 : Int32) = 0 from z) (by decide)) (fun _ => ?_)
  show Tm (fun k => x_back k 5 (upd L 100 0) (mSc σ 2 0)) _
  have all : ∀ j, j ≤ m - q → ∃ r N, (∀ k, N ≤ k → rsB j k (mSc σ 2 0) = some r) ∧ r.2.1 103 = nI j := fun j hj => by
    obtain ⟨r1, _, N, a, _, h1, _, _⟩ := hP j (by omega) _ _ hR hR
    exact ⟨r1, N, a, h1⟩
  have cu := Cur_of (hP (m - q) (by omega)) hR
  obtain ⟨s, N0, b0, b1⟩ := hrs
  refine Tm_suc (fun k => by rw [x_back]) ?_
  refine Tm_ob (P := fun y => y = s) ⟨s, N0, b0, rfl⟩ (fun y hy => ?_)
  rw [hy]
  have e2 : (mSc σ 2 0).1 103 - (upd L 100 0) 1 = nI (m - q) := by
    show σ.1 103 - L 1 = _
    rw [h103, d1, n_sub (by omega) (by omega)]
  refine Tm_mono (s_bkL (σ := mSc σ 2 0) (by omega) all (N := upd (upd L 100 0) 2 ((mSc σ 2 0).1 103 - (upd L 100 0) 1)) e2 (m - q) 0 (0, s.2) N0 (by omega) (fun k hk => ?_) b1) (fun r hr => ?_)
  · unfold rsB
    have := b0 k hk
    rw [show x_reset k 0 (fun _ => 0) (mSc σ 2 0) = some s from this]
    rfl
  · obtain ⟨g1, x, M', g2, g3⟩ := hr
    obtain ⟨y, M2, c1, c2⟩ := cu
    have e : x = y := T2_un g2 c1
    refine ⟨g1, ?_⟩
    rw [g3, e]; exact c2
end BCK
