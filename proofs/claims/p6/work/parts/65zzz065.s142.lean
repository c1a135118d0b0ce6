/-! The sweep: all roots (reference; made by swp.py). -/
/-- the places of a state that hold values -/
def StI (A : Nat → Int32) (b i : Nat) : Prop := (b + 4 ≤ i ∧ i < b + 64) ∨ (b + 214 ≤ i ∧ i < b + 214 + 60 * (A (b + 1)).toNatClampNeg) ∨ (b + 5314 ≤ i ∧ i < b + 5314 + (A (b + 3)).toNatClampNeg)
def StB (A : Nat → Int32) (b : Nat) : Prop := ∃ c n, A (b + 1) = nI c ∧ c ≤ 50 ∧ A (b + 3) = nI n ∧ n ≤ 3100
/-- midway among the roots: those of D are done -/
def SwM (H0 : Nat → Int32) (g : Nat → Prop) (l : List Nat) (B h B' : Nat) (σ : MS) (D : Nat → Nat → Prop) (υ : MS) : Prop :=
  ∃ h' mv φ l', SWS H0 g l B h B' (B' + 4) υ h' mv φ l' ∧ (∀ a i, D a i → a ≠ 28 ∧ ∃ m, σ.2.2 a i = nI m ∧ (m < 3 ∨ g m) ∧ SWV mv φ m (υ.2.2 a i)) ∧ (∀ a i, a ≠ 28 → ¬ D a i → υ.2.2 a i = σ.2.2 a i) ∧ (∀ j, j ≠ 54 → j ≠ 55 → υ.1 j = σ.1 j) ∧ υ.1 54 = nI B'
section SWM
variable {H0 : Nat → Int32} {g : Nat → Prop} {l : List Nat} {B h B' : Nat} {σ υ : MS} {D : Nat → Nat → Prop}
theorem SwM_iff {D2 : Nat → Nat → Prop} (hM : SwM H0 g l B h B' σ D υ) (hi : ∀ a i, D a i ↔ D2 a i) : SwM H0 g l B h B' σ D2 υ := by
  obtain ⟨h', mv, φ, l', m1, m2, m3, m4, m5⟩ := hM
  exact ⟨h', mv, φ, l', m1, fun a i z => m2 a i ((hi a i).mpr z), fun a i z y => m3 a i z (fun w => y ((hi a i).mp w)), m4, m5⟩
theorem SwM_ob {x : Nat → Option (Int32 × MS)} {a f c : Nat} (hM : SwM H0 g l B h B' σ D υ) (ha : a ≠ 28) (hD : ∀ i, f ≤ i → i < f + c → ¬ D a i) (hV : ∀ i, f ≤ i → i < f + c → Vd g (σ.2.2 a i)) (hx : ∀ h' mv φ l', SWS H0 g l B h B' (B' + 4) υ h' mv φ l' → (∀ i, i < c → ∃ m, υ.2.2 a (f + i) = nI m ∧ (m < 3 ∨ g m)) → Tm x (fun r => RwO H0 g l B h B' (B' + 4) a f c υ h' mv φ r.2)) : Tm x (fun r => SwM H0 g l B h B' σ (fun b i => D b i ∨ (b = a ∧ f ≤ i ∧ i < f + c)) r.2) := by
  obtain ⟨h', mv, φ, l', m1, m2, m3, m4, m5⟩ := hM
  refine Tm_mono (hx h' mv φ l' m1 (fun i hi => ?_)) (fun r hr => ?_)
  · rw [m3 a (f + i) ha (hD _ (by omega) (by omega))]
    exact hV _ (by omega) (by omega)
  · obtain ⟨h2, mv2, φ2, l2, r1, r2, r3, r4, r5, r6, r7⟩ := hr
    refine ⟨h2, mv2, φ2, l2, r1, fun b i hb => ?_, fun b i hb hn => ?_, fun j q1 q2 => (r6 j q2).trans (m4 j q1 q2), (r6 54 (by decide)).trans m5⟩
    · by_cases e : b = a ∧ f ≤ i ∧ i < f + c
      · obtain ⟨e1, e2, e3⟩ := e
        subst e1
        obtain ⟨m, k1, k2, k3⟩ := r4 (i - f) (by omega)
        rw [show f + (i - f) = i by omega] at k1 k3
        exact ⟨ha, m, (m3 b i ha (hD i e2 e3)).symm.trans k1, k2, k3⟩
      · obtain ⟨h28, m, k1, k2, k3⟩ := m2 b i (hb.resolve_right e)
        refine ⟨h28, m, k1, k2, ?_⟩
        by_cases ea : b = a
        · subst ea
          rw [r5 i (fun z => e ⟨rfl, z⟩)]; exact SWV_mo r3 k3
        · rw [r7 b h28 ea]; exact SWV_mo r3 k3
    · by_cases ea : b = a
      · subst ea
        rw [r5 i (fun z => hn (Or.inr ⟨rfl, z⟩))]
        exact m3 b i hb (fun z => hn (Or.inl z))
      · rw [r7 b hb ea]
        exact m3 b i hb (fun z => hn (Or.inl z))
theorem s_cpS30 {b : Nat} (hb : b + 11514 ≤ 11514) (hM : SwM H0 g l B h B' σ D υ) (hD : ∀ i, b ≤ i → i < b + 11514 → ¬ D 30 i) (hB : StB (σ.2.2 30) b) (hV : ∀ i, StI (σ.2.2 30) b i → Vd g (σ.2.2 30 i)) {L : Nat → Int32} (h2 : L 2 = nI b) : Tm (fun k => x_copyState__30 k 0 L υ) (fun r => SwM H0 g l B h B' σ (fun a i => D a i ∨ (a = 30 ∧ StI (σ.2.2 30) b i)) r.2) := by
  obtain ⟨c, n, c1, c2, n1, n2⟩ := hB
  have hSt : ∀ i, StI (σ.2.2 30) b i ↔ (b + 4 ≤ i ∧ i < b + 64) ∨ (b + 214 ≤ i ∧ i < b + 214 + 60 * c) ∨ (b + 5314 ≤ i ∧ i < b + 5314 + n) := fun i => by
    unfold StI
    rw [c1, n1, n_cl (p := c) (by omega), n_cl (p := n) (by omega)]
  refine Tm_suc (fun k => by rw [x_copyState__30]) ?_
  rw [h2, show nI b + 4 = nI (b + 4) from n_add (q := 4) (by omega), show nI b + 1 = nI (b + 1) from n_add1 b, show nI b + 214 = nI (b + 214) from n_add (q := 214) (by omega), show nI b + 3 = nI (b + 3) from n_add (q := 3) (by omega), show nI b + 5314 = nI (b + 5314) from n_add (q := 5314) (by omega)]
  refine Tm_ob (SwM_ob (a := 30) (f := b + 4) (c := 60) hM (by decide) (fun i q1 q2 => hD i (by omega) (by omega)) (fun i q1 q2 => hV i ((hSt i).mpr (by omega))) (fun h' mv φ l' hS hv => s_cpR30 hS (by omega) hv rfl rfl)) (fun r1 m1 => ?_)
  have e1 : r1.2.2.2 30 (b + 1) = nI c := by
    obtain ⟨_, _, _, _, _, _, m3, _⟩ := m1
    rw [m3 30 (b + 1) (by decide) (fun z => z.elim (hD _ (by omega) (by omega)) (fun z => by omega))]
    exact c1
  refine Tm_chk (n_in (by omega) (by omega)) ?_
  rw [n_cl (p := b + 1) (by omega), e1, show (60 : Int32) * nI c = nI (60 * c) from n_mulN 60 c]
  refine Tm_ob (SwM_ob (a := 30) (f := b + 214) (c := 60 * c) m1 (by decide) (fun i q1 q2 z => z.elim (hD i (by omega) (by omega)) (fun z => by omega)) (fun i q1 q2 => hV i ((hSt i).mpr (by omega))) (fun h' mv φ l' hS hv => s_cpR30 hS (by omega) hv rfl rfl)) (fun r2 m2 => ?_)
  have e2 : r2.2.2.2 30 (b + 3) = nI n := by
    obtain ⟨_, _, _, _, _, _, m3, _⟩ := m2
    rw [m3 30 (b + 3) (by decide) (fun z => z.elim (fun z => z.elim (hD _ (by omega) (by omega)) (fun z => by omega)) (fun z => by omega))]
    exact n1
  refine Tm_chk (n_in (by omega) (by omega)) ?_
  rw [n_cl (p := b + 3) (by omega), e2]
  refine Tm_ob (SwM_ob (a := 30) (f := b + 5314) (c := n) m2 (by decide) (fun i q1 q2 z => z.elim (fun z => z.elim (hD i (by omega) (by omega)) (fun z => by omega)) (fun z => by omega)) (fun i q1 q2 => hV i ((hSt i).mpr (by omega))) (fun h' mv φ l' hS hv => s_cpR30 hS (by omega) hv rfl rfl)) (fun r3 m3 => ?_)
  refine Tm_some (SwM_iff m3 (fun a i => ?_))
  rw [hSt i]
  constructor
  · rintro (((z | z) | z) | z)
    · exact Or.inl z
    · exact Or.inr ⟨z.1, Or.inl z.2⟩
    · exact Or.inr ⟨z.1, Or.inr (Or.inl z.2)⟩
    · exact Or.inr ⟨z.1, Or.inr (Or.inr z.2)⟩
  · rintro (z | ⟨z, (y | y | y)⟩)
    · exact Or.inl (Or.inl (Or.inl z))
    · exact Or.inl (Or.inl (Or.inr ⟨z, y⟩))
    · exact Or.inl (Or.inr ⟨z, y⟩)
    · exact Or.inr ⟨z, y⟩
theorem s_cpS31 {b : Nat} (hb : b + 11514 ≤ 230280) (hM : SwM H0 g l B h B' σ D υ) (hD : ∀ i, b ≤ i → i < b + 11514 → ¬ D 31 i) (hB : StB (σ.2.2 31) b) (hV : ∀ i, StI (σ.2.2 31) b i → Vd g (σ.2.2 31 i)) {L : Nat → Int32} (h2 : L 2 = nI b) : Tm (fun k => x_copyState__31 k 0 L υ) (fun r => SwM H0 g l B h B' σ (fun a i => D a i ∨ (a = 31 ∧ StI (σ.2.2 31) b i)) r.2) := by
  obtain ⟨c, n, c1, c2, n1, n2⟩ := hB
  have hSt : ∀ i, StI (σ.2.2 31) b i ↔ (b + 4 ≤ i ∧ i < b + 64) ∨ (b + 214 ≤ i ∧ i < b + 214 + 60 * c) ∨ (b + 5314 ≤ i ∧ i < b + 5314 + n) := fun i => by
    unfold StI
    rw [c1, n1, n_cl (p := c) (by omega), n_cl (p := n) (by omega)]
  refine Tm_suc (fun k => by rw [x_copyState__31]) ?_
  rw [h2, show nI b + 4 = nI (b + 4) from n_add (q := 4) (by omega), show nI b + 1 = nI (b + 1) from n_add1 b, show nI b + 214 = nI (b + 214) from n_add (q := 214) (by omega), show nI b + 3 = nI (b + 3) from n_add (q := 3) (by omega), show nI b + 5314 = nI (b + 5314) from n_add (q := 5314) (by omega)]
  refine Tm_ob (SwM_ob (a := 31) (f := b + 4) (c := 60) hM (by decide) (fun i q1 q2 => hD i (by omega) (by omega)) (fun i q1 q2 => hV i ((hSt i).mpr (by omega))) (fun h' mv φ l' hS hv => s_cpR31 hS (by omega) hv rfl rfl)) (fun r1 m1 => ?_)
  have e1 : r1.2.2.2 31 (b + 1) = nI c := by
    obtain ⟨_, _, _, _, _, _, m3, _⟩ := m1
    rw [m3 31 (b + 1) (by decide) (fun z => z.elim (hD _ (by omega) (by omega)) (fun z => by omega))]
    exact c1
  refine Tm_chk (n_in (by omega) (by omega)) ?_
  rw [n_cl (p := b + 1) (by omega), e1, show (60 : Int32) * nI c = nI (60 * c) from n_mulN 60 c]
  refine Tm_ob (SwM_ob (a := 31) (f := b + 214) (c := 60 * c) m1 (by decide) (fun i q1 q2 z => z.elim (hD i (by omega) (by omega)) (fun z => by omega)) (fun i q1 q2 => hV i ((hSt i).mpr (by omega))) (fun h' mv φ l' hS hv => s_cpR31 hS (by omega) hv rfl rfl)) (fun r2 m2 => ?_)
  have e2 : r2.2.2.2 31 (b + 3) = nI n := by
    obtain ⟨_, _, _, _, _, _, m3, _⟩ := m2
    rw [m3 31 (b + 3) (by decide) (fun z => z.elim (fun z => z.elim (hD _ (by omega) (by omega)) (fun z => by omega)) (fun z => by omega))]
    exact n1
  refine Tm_chk (n_in (by omega) (by omega)) ?_
  rw [n_cl (p := b + 3) (by omega), e2]
  refine Tm_ob (SwM_ob (a := 31) (f := b + 5314) (c := n) m2 (by decide) (fun i q1 q2 z => z.elim (fun z => z.elim (hD i (by omega) (by omega)) (fun z => by omega)) (fun z => by omega)) (fun i q1 q2 => hV i ((hSt i).mpr (by omega))) (fun h' mv φ l' hS hv => s_cpR31 hS (by omega) hv rfl rfl)) (fun r3 m3 => ?_)
  refine Tm_some (SwM_iff m3 (fun a i => ?_))
  rw [hSt i]
  constructor
  · rintro (((z | z) | z) | z)
    · exact Or.inl z
    · exact Or.inr ⟨z.1, Or.inl z.2⟩
    · exact Or.inr ⟨z.1, Or.inr (Or.inl z.2)⟩
    · exact Or.inr ⟨z.1, Or.inr (Or.inr z.2)⟩
  · rintro (z | ⟨z, (y | y | y)⟩)
    · exact Or.inl (Or.inl (Or.inl z))
    · exact Or.inl (Or.inl (Or.inr ⟨z, y⟩))
    · exact Or.inl (Or.inr ⟨z, y⟩)
    · exact Or.inr ⟨z, y⟩
/-- all points -/
theorem s_swp6 {P : Nat} (hP : P ≤ 20) (hD : ∀ i, ¬ D 31 i) (hB : ∀ p, p < P → StB (σ.2.2 31) (11514 * p)) (hV : ∀ p, p < P → ∀ i, StI (σ.2.2 31) (11514 * p) i → Vd g (σ.2.2 31 i)) (h63 : σ.1 63 = nI P) {Q : Int32 × MS → Prop} (hQ : ∀ (L : Nat → Int32) (τ : MS), SwM H0 g l B h B' σ (fun a i => D a i ∨ (a = 31 ∧ ∃ p, p < P ∧ StI (σ.2.2 31) (11514 * p) i)) τ → Tm (fun k => x_sweep k 7 L τ) Q) : ∀ (q p : Nat) (L : Nat → Int32) (υ : MS), q + p = P → L 2 = nI p → SwM H0 g l B h B' σ (fun a i => D a i ∨ (a = 31 ∧ ∃ p', p' < p ∧ StI (σ.2.2 31) (11514 * p') i)) υ → Tm (fun k => x_sweep k 6 L υ) Q := by
  have e63 : ∀ (D2 : Nat → Nat → Prop) (τ : MS), SwM H0 g l B h B' σ D2 τ → τ.1 63 = nI P := fun D2 τ hM => by
    obtain ⟨_, _, _, _, _, _, _, m4, _⟩ := hM
    exact (m4 63 (by decide) (by decide)).trans h63
  intro q
  induction q with
  | zero =>
    intro p L υ hp l2 hM
    have e : p = P := by omega
    subst e
    refine Tm_suc (fun k => by rw [x_sweep]) ?_
    rw [e63 _ _ hM, l2]
    refine Tm_ite (fun _ => hQ _ _ hM) (fun w => absurd ((n_le (by omega) (by omega)).mpr (Nat.le_refl _)) w)
  | succ q ih =>
    intro p L υ hp l2 hM
    refine Tm_suc (fun k => by rw [x_sweep]) ?_
    rw [e63 _ _ hM, l2, show (11514 : Int32) * nI p = nI (11514 * p) from n_mulN 11514 p]
    refine Tm_ite (fun w => absurd ((n_le (by omega) (by omega)).mp w) (by omega)) (fun _ => ?_)
    refine Tm_ob (s_cpS31 (b := 11514 * p) (by omega) hM (fun i q1 q2 z => ?_) (hB p (by omega)) (hV p (by omega)) rfl) (fun r hr => ?_)
    · rcases z with z | ⟨_, p', y1, y2⟩
      · exact hD i z
      · obtain ⟨c, n, c1, c2, n1, n2⟩ := hB p' (by omega)
        unfold StI at y2
        rw [c1, n1, n_cl (p := c) (by omega), n_cl (p := n) (by omega)] at y2
        have : 11514 * p' + 11514 ≤ 11514 * p := by omega
        omega
    · refine ih (p + 1) _ _ (by omega) (by rw [upd_same, n_add1]) (SwM_iff hr (fun a i => ?_))
      constructor
      · rintro ((z | ⟨z, p', y1, y2⟩) | ⟨z, y⟩)
        · exact Or.inl z
        · exact Or.inr ⟨z, p', by omega, y2⟩
        · exact Or.inr ⟨z, p, by omega, y⟩
      · rintro (z | ⟨z, p', y1, y2⟩)
        · exact Or.inl (Or.inl z)
        · by_cases e : p' = p
          · subst e; exact Or.inr ⟨z, y2⟩
          · exact Or.inl (Or.inr ⟨z, p', by omega, y2⟩)
end SWM
