/-! Two runs side by side (reference): comparing. -/
section KCM
variable {g1 g2 : Nat → Prop} {l1 l2 : List Nat} {B1 h1 B2 h2 n : Nat} {σ1 σ2 : MS}
theorem k_compareWholes (hS1 : HS g1 l1 B1 h1 σ1) (hS2 : HS g2 l2 B2 h2 σ2) {a1 b1 a2 b2 p q : Nat} (p1 : σ1.2.2 28 (a1 + 1) = nI p) (p2 : σ2.2.2 28 (a2 + 1) = nI p) (q1 : σ1.2.2 28 (b1 + 1) = nI q) (q2 : σ2.2.2 28 (b2 + 1) = nI q) (hp : p ≤ 3996) (hq : q ≤ 3996) (hp1 : 1 ≤ p) (hq1 : 1 ≤ q) (ha1 : a1 + 4 + p ≤ 1740000) (ha2 : a2 + 4 + p ≤ 1740000) (hb1 : b1 + 4 + q ≤ 1740000) (hb2 : b2 + 4 + q ≤ 1740000)
    (ca : ∀ i, i < p → σ2.2.2 28 (a2 + 4 + i) = σ1.2.2 28 (a1 + 4 + i)) (cb : ∀ i, i < q → σ2.2.2 28 (b2 + 4 + i) = σ1.2.2 28 (b1 + 4 + i)) {L1 L2 : Nat → Int32} (e1 : L1 1 = nI a1) (e2 : L1 2 = nI b1) (f1 : L2 1 = nI a2) (f2 : L2 2 = nI b2) : Pm n (fun k => x_compareWholes k 0 L1 σ1) (fun k => x_compareWholes k 0 L2 σ2) (fun r1 r2 => r1.1 = r2.1) := by
  have sa : ∀ (m : Nat) (N1 N2 : Nat → Int32), N1 1 = nI a1 → N2 1 = nI a2 → Pm m (fun k => x_signOf k 0 N1 σ1) (fun k => x_signOf k 0 N2 σ2) (fun r1 r2 => r1 = (σ1.2.2 28 (a1 + 4), σ1) ∧ r2 = (σ1.2.2 28 (a1 + 4), σ2)) := fun m N1 N2 m1 m2 => by
    have := Pm_t2 (n := m) (s_signOf hS1 (m := a1) (by omega) m1) (fun k => f_signOf k _ _ _) (s_signOf hS2 (m := a2) (by omega) m2) (fun k => f_signOf k _ _ _)
    have c0 := ca 0 (by omega)
    exact Pm_mono this (fun r1 r2 z => ⟨z.1, by rw [z.2, show a2 + 4 = a2 + 4 + 0 from rfl, c0]⟩)
  have sb : ∀ (m : Nat) (N1 N2 : Nat → Int32), N1 1 = nI b1 → N2 1 = nI b2 → Pm m (fun k => x_signOf k 0 N1 σ1) (fun k => x_signOf k 0 N2 σ2) (fun r1 r2 => r1 = (σ1.2.2 28 (b1 + 4), σ1) ∧ r2 = (σ1.2.2 28 (b1 + 4), σ2)) := fun m N1 N2 m1 m2 => by
    have := Pm_t2 (n := m) (s_signOf hS1 (m := b1) (by omega) m1) (fun k => f_signOf k _ _ _) (s_signOf hS2 (m := b2) (by omega) m2) (fun k => f_signOf k _ _ _)
    have c0 := cb 0 (by omega)
    exact Pm_mono this (fun r1 r2 z => ⟨z.1, by rw [z.2, show b2 + 4 = b2 + 4 + 0 from rfl, c0]⟩)
  have w5 : ∀ (m : Nat) (N1 N2 : Nat → Int32), N1 100 = N2 100 → Pm m (fun k => x_compareWholes k 5 N1 σ1) (fun k => x_compareWholes k 5 N2 σ2) (fun r1 r2 => r1.1 = r2.1) := fun m N1 N2 h => by
    refine Pm_suc rfl (fun k => by rw [x_compareWholes]) (fun k => by rw [x_compareWholes]) (fun m _ => ?_)
    exact Pm_some h
  have w3 : ∀ (m : Nat) (N1 N2 : Nat → Int32), N1 1 = nI a1 → N2 1 = nI a2 → N1 5 = N2 5 → Pm m (fun k => x_compareWholes k 3 N1 σ1) (fun k => x_compareWholes k 3 N2 σ2) (fun r1 r2 => r1.1 = r2.1) := fun m N1 N2 n1 n2 n5 => by
    refine Pm_suc rfl (fun k => by rw [x_compareWholes]) (fun k => by rw [x_compareWholes]) (fun m _ => ?_)
    refine Pm_ob (sa m _ _ (by exact n1) (by exact n2)) (fun r1 r2 hr => ?_)
    rw [hr.1, hr.2]
    refine Pm_ite Iff.rfl (fun _ _ => ?_) (fun _ _ => ?_)
    · refine Pm_suc rfl (fun k => by rw [x_compareWholes]) (fun k => by rw [x_compareWholes]) (fun m _ => ?_)
      exact w5 m _ _ (by show N1 5 = N2 5; exact n5)
    · exact w5 m _ _ (by show - N1 5 = - N2 5; rw [n5])
  have w2 : ∀ (m i : Nat) (N1 N2 : Nat → Int32), i < p → N1 1 = nI a1 → N2 1 = nI a2 → N1 2 = nI b1 → N2 2 = nI b2 → N1 6 = nI i → N2 6 = nI i → N1 5 = N2 5 → (N1 5 = 0 → p = q) → Pm m (fun k => x_compareWholes k 2 N1 σ1) (fun k => x_compareWholes k 2 N2 σ2) (fun r1 r2 => r1.1 = r2.1) := by
    intro m
    induction m with
    | zero =>
      intro i N1 N2 hi n1 m1 n2 m2 n6 m6 n5 h5
      exact Pm_suc rfl (fun k => by rw [x_compareWholes]) (fun k => by rw [x_compareWholes]) (fun m hm => by omega)
    | succ m ih =>
      intro i N1 N2 hi n1 m1 n2 m2 n6 m6 n5 h5
      refine Pm_suc rfl (fun k => by rw [x_compareWholes]) (fun k => by rw [x_compareWholes]) (fun m' hm' => ?_)
      have hm' : m' = m := by omega
      subst hm'
      rw [n1, m1, n2, m2, n6, m6, show nI a1 + 4 = nI (a1 + 4) from n_add (q := 4) (by omega), show nI a2 + 4 = nI (a2 + 4) from n_add (q := 4) (by omega), show nI b1 + 4 = nI (b1 + 4) from n_add (q := 4) (by omega), show nI b2 + 4 = nI (b2 + 4) from n_add (q := 4) (by omega), n_add (p := a1 + 4) (q := i) (by omega), n_add (p := a2 + 4) (q := i) (by omega), n_add (p := b1 + 4) (q := i) (by omega), n_add (p := b2 + 4) (q := i) (by omega)]
      refine Pm_ite Iff.rfl (fun _ _ => w3 m' _ _ n1 m1 n5) (fun z _ => ?_)
      refine Pm_ite (by rw [n5]) (fun z5 _ => ?_) (fun _ _ => w3 m' _ _ n1 m1 n5)
      have epq := h5 z5
      refine Pm_chk (fun _ _ => ?_)
      refine Pm_chk (fun _ _ => ?_)
      rw [n_cl (p := a1 + 4 + i) (by omega), n_cl (p := a2 + 4 + i) (by omega), n_cl (p := b1 + 4 + i) (by omega), n_cl (p := b2 + 4 + i) (by omega), ca i hi, cb i (by omega)]
      have hi1 : 1 ≤ i := by
        by_cases e : i = 0
        · exact absurd (by rw [e]; decide) z
        · omega
      obtain ⟨j, rfl⟩ : ∃ j, i = j + 1 := ⟨i - 1, by omega⟩
      rw [show nI (j + 1) + (-1) = nI j from n_pred j (by omega)]
      exact ih j _ _ (by omega) n1 m1 n2 m2 rfl rfl rfl (fun _ => epq)
  refine Pm_suc rfl (fun k => by rw [x_compareWholes]) (fun k => by rw [x_compareWholes]) (fun m _ => ?_)
  refine Pm_ob (sa m _ _ (by exact e1) (by exact f1)) (fun r1 r2 hr => ?_)
  rw [hr.1, hr.2]
  refine Pm_ob (sb m _ _ (by exact e2) (by exact f2)) (fun s1 s2 hs => ?_)
  rw [hs.1, hs.2]
  refine Pm_ite Iff.rfl (fun _ _ => ?_) (fun _ _ => ?_)
  · refine Pm_suc rfl (fun k => by rw [x_compareWholes]) (fun k => by rw [x_compareWholes]) (fun m _ => ?_)
    rw [e1, e2, f1, f2, n_add1, n_add1, n_add1, n_add1]
    refine Pm_chk (fun _ _ => ?_)
    refine Pm_chk (fun _ _ => ?_)
    rw [n_cl (p := a1 + 1) (by omega), n_cl (p := b1 + 1) (by omega), n_cl (p := a2 + 1) (by omega), n_cl (p := b2 + 1) (by omega), p1, p2, q1, q2]
    refine w2 m (p - 1) _ _ (by omega) e1 f1 e2 f2 ?_ ?_ rfl (fun z => (n_sub0 (by omega) (by omega)).mp z)
    · show nI p - 1 = _
      exact n_sub (p := p) (q := 1) (by omega) hp1
    · show nI p - 1 = _
      exact n_sub (p := p) (q := 1) (by omega) hp1
  · refine Pm_ob (sa m _ _ (by exact e1) (by exact f1)) (fun r1 r2 hr => ?_)
    rw [hr.1, hr.2]
    refine Pm_ob (sb m _ _ (by exact e2) (by exact f2)) (fun s1 s2 hs => ?_)
    rw [hs.1, hs.2]
    exact Pm_some rfl
end KCM
