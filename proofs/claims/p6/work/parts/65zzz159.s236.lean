/-! Statements on both sides (reference): places are moved; the tree of statements, paths, loops that are open. -/
/-- what is not in use stays so: counts no larger -/
theorem InA_n30 {σ τ : MS} {j : Nat} (h : ∀ k, k = 1 ∨ k = 2 ∨ k = 3 → (τ.2.2 30 k).toNatClampNeg ≤ (σ.2.2 30 k).toNatClampNeg) (y : InA σ 30 j) : InA τ 30 j := by
  have h1 := h 1 (by omega)
  have h2 := h 2 (by omega)
  have h3 := h 3 (by omega)
  unfold InA at y ⊢
  rcases y with y | y
  · refine Or.inl ⟨rfl, ?_⟩
    have y := y.2
    unfold IaN at y ⊢
    rw [Nat.zero_add, Nat.zero_add, Nat.zero_add] at y ⊢
    omega
  · omega
theorem InA_31 {σ τ : MS} {j : Nat} (h63 : τ.1 63 = σ.1 63) (h31 : τ.2.2 31 = σ.2.2 31) (y : InA σ 31 j) : InA τ 31 j := by
  unfold InA at y ⊢
  rw [h63, h31]
  rcases y with y | y | y
  · omega
  · exact Or.inr (Or.inl y)
  · omega
theorem InA_32 {σ τ : MS} {j : Nat} (h63 : τ.1 63 = σ.1 63) (y : InA σ 32 j) : InA τ 32 j := by
  unfold InA at y ⊢
  rw [h63]
  rcases y with y | y | y
  · omega
  · omega
  · exact Or.inr (Or.inr (by omega))
section EMV
variable {t u w XC : Nat} {σ1 σ2 τ1 τ2 : MS}
/-- rows of the run are others: what lies at a place lay at a place before, or is om -/
theorem EIx_mv {g1 g2 : Nat → Prop} {l1' l2' : List Nat} {B1 h1 X1 B2 h2 X2 : Nat} (hE : EIx t w XC σ1 σ2 g1 l1' B1 h1 X1 g2 l2' B2 h2 X2) (s1 : ∀ j, j = 54 ∨ j = 55 ∨ j = 56 ∨ j = 57 ∨ j = 72 ∨ j = 95 ∨ j = 22 ∨ j = 24 ∨ j = 30 ∨ j = 44 → τ1.1 j = σ1.1 j) (s2 : ∀ j, j = 54 ∨ j = 55 ∨ j = 56 ∨ j = 57 ∨ j = 72 ∨ j = 95 ∨ j = 22 ∨ j = 24 ∨ j = 30 ∨ j = 44 → τ2.1 j = σ2.1 j) (l1 : τ1.2.1 = σ1.2.1) (l2 : τ2.2.1 = σ2.2.1) (r1 : ∀ a, a ≠ 29 → a ≠ 30 → a ≠ 31 → a ≠ 32 → a ≠ 33 → τ1.2.2 a = σ1.2.2 a) (r2 : ∀ a, a ≠ 29 → a ≠ 30 → a ≠ 31 → a ≠ 32 → a ≠ 33 → τ2.2.2 a = σ2.2.2 a) (u1 : τ1.1 59 = nI u) (q1 : RtQ τ1) (al30 : ∀ i, ¬ Zn 30 i → ¬ InA τ1 30 i → τ1.2.2 30 i = τ2.2.2 30 i) (al31 : ∀ i, ¬ Zn 31 i → ¬ InA τ1 31 i → τ1.2.2 31 i = τ2.2.2 31 i) (al32 : ∀ i, ¬ InA τ1 32 i → τ1.2.2 32 i = τ2.2.2 32 i) (als : ∀ j, AlS j → τ1.1 j = τ2.1 j) (hp : ∀ a i, a = 29 ∨ a = 30 ∨ a = 31 ∨ a = 33 → RtP u τ1 a i → (∃ a' i', ¬ VwR a' ∧ RtP t σ1 a' i' ∧ τ1.2.2 a i = σ1.2.2 a' i' ∧ τ2.2.2 a i = σ2.2.2 a' i') ∨ (τ1.2.2 a i = 0 ∧ τ2.2.2 a i = 0)) : EIx u w XC τ1 τ2 g1 l1' B1 h1 X1 g2 l2' B2 h2 X2 := by
  obtain ⟨m1, m2, hR, i1, i2, t1, e1, e2, w1, hw, x1, x2, ⟨ty1, ty2⟩, a, a1, a2⟩ := hE
  have rr := RA_rt m1.2.1 hR
  have b63 : τ2.1 63 = τ1.1 63 := (als 63 (by unfold AlS; omega)).symm
  have b72 : τ2.1 72 = τ1.1 72 := (als 72 (by unfold AlS; omega)).symm
  have c1 : τ2.2.2 30 1 = τ1.2.2 30 1 := (al30 1 (by unfold Zn; omega) (InA_4 (by omega))).symm
  have c3 : τ2.2.2 30 3 = τ1.2.2 30 3 := (al30 3 (by unfold Zn; omega) (InA_4 (by omega))).symm
  have d1 : ∀ p, p < (τ1.1 63).toNatClampNeg → τ2.2.2 31 (11514 * p + 1) = τ1.2.2 31 (11514 * p + 1) := fun p hp => (al31 _ (by unfold Zn; omega) (InA_p hp (by omega))).symm
  have d3 : ∀ p, p < (τ1.1 63).toNatClampNeg → τ2.2.2 31 (11514 * p + 3) = τ1.2.2 31 (11514 * p + 3) := fun p hp => (al31 _ (by unfold Zn; omega) (InA_p hp (by omega))).symm
  have q2 : RtQ τ2 := by
    obtain ⟨P, e, y1, y2, y3, y4, ⟨c, n, z1, z2, z3, z4⟩, y6⟩ := q1
    refine ⟨P, e, b63.trans y1, y2, b72.trans y3, y4, ⟨c, n, c1.trans z1, z2, c3.trans z3, z4⟩, fun p hp => ?_⟩
    obtain ⟨c, n, z1, z2, z3, z4⟩ := y6 p hp
    have hp' : p < (τ1.1 63).toNatClampNeg := by rw [y1, n_cl (p := P) (by omega)]; exact hp
    exact ⟨c, n, (d1 p hp').trans z1, z2, (d3 p hp').trans z3, z4⟩
  have rc : ∀ x i, RtP u τ2 x i → RtP u τ1 x i := fun x i z => by
    unfold RtP at z ⊢
    rw [b63, b72] at z
    rcases z with z | ⟨z, y⟩ | ⟨z, p, hp, y⟩ | z | z | z | z | z | z
    · exact Or.inl z
    · refine Or.inr (Or.inl ⟨z, ?_⟩)
      unfold StI at y ⊢
      rw [show (0 + 1) = 1 from rfl, show (0 + 3) = 3 from rfl, c1, c3] at y
      exact y
    · refine Or.inr (Or.inr (Or.inl ⟨z, p, hp, ?_⟩))
      unfold StI at y ⊢
      rw [d1 p hp, d3 p hp] at y
      exact y
    · exact Or.inr (Or.inr (Or.inr (Or.inl z)))
    · exact Or.inr (Or.inr (Or.inr (Or.inr (Or.inl z))))
    · exact Or.inr (Or.inr (Or.inr (Or.inr (Or.inr (Or.inl z)))))
    · exact Or.inr (Or.inr (Or.inr (Or.inr (Or.inr (Or.inr (Or.inl z))))))
    · exact Or.inr (Or.inr (Or.inr (Or.inr (Or.inr (Or.inr (Or.inr (Or.inl z)))))))
    · exact Or.inr (Or.inr (Or.inr (Or.inr (Or.inr (Or.inr (Or.inr (Or.inr z)))))))
  have oth : ∀ x i, ¬ (x = 29 ∨ x = 30 ∨ x = 31 ∨ x = 33) → RtP u τ1 x i → RtP t σ1 x i ∧ x ≠ 32 := fun x i hx z => by
    unfold RtP at z ⊢
    rw [s1 72 (by omega)] at z
    rcases z with z | ⟨z, y⟩ | ⟨z, p, hp, y⟩ | z | z | z | z | z | z
    · exact absurd (Or.inl z.1) hx
    · exact absurd (Or.inr (Or.inl z)) hx
    · exact absurd (Or.inr (Or.inr (Or.inl z))) hx
    · exact absurd (Or.inr (Or.inr (Or.inr z.1))) hx
    · exact ⟨Or.inr (Or.inr (Or.inr (Or.inr (Or.inl z)))), by have := z.1; omega⟩
    · exact ⟨Or.inr (Or.inr (Or.inr (Or.inr (Or.inr (Or.inl z))))), by have := z.1; omega⟩
    · exact ⟨Or.inr (Or.inr (Or.inr (Or.inr (Or.inr (Or.inr (Or.inl z)))))), by have := z.1; omega⟩
    · exact ⟨Or.inr (Or.inr (Or.inr (Or.inr (Or.inr (Or.inr (Or.inr (Or.inl z))))))), by have := z.1; omega⟩
    · exact ⟨Or.inr (Or.inr (Or.inr (Or.inr (Or.inr (Or.inr (Or.inr (Or.inr z))))))), by have := z.1; omega⟩
  have n1 : MI u X1 g1 l1' B1 h1 τ1 := MI_re m1 (s1 54 (by omega)) (s1 55 (by omega)) (r1 28 (by decide) (by decide) (by decide) (by decide) (by decide)) q1 (fun x i z => by
    by_cases e : x = 29 ∨ x = 30 ∨ x = 31 ∨ x = 33
    · rcases hp x i e z with ⟨a', i', j0, j1, j2, j3⟩ | ⟨j2, j3⟩
      · rw [j2]; exact MI_rt m1 j1
      · exact ⟨0, j2, Or.inl (by decide)⟩
    · obtain ⟨o1, o2⟩ := oth x i e z
      rw [r1 x (by omega) (by omega) (by omega) o2 (by omega)]; exact MI_rt m1 o1)
  have n2 : MI u X2 g2 l2' B2 h2 τ2 := MI_re m2 (s2 54 (by omega)) (s2 55 (by omega)) (r2 28 (by decide) (by decide) (by decide) (by decide) (by decide)) q2 (fun x i z => by
    have z := rc x i z
    by_cases e : x = 29 ∨ x = 30 ∨ x = 31 ∨ x = 33
    · rcases hp x i e z with ⟨a', i', j0, j1, j2, j3⟩ | ⟨j2, j3⟩
      · rw [j3]; exact MI_rt m2 ((rr t a' i').mpr j1)
      · exact ⟨0, j3, Or.inl (by decide)⟩
    · obtain ⟨o1, o2⟩ := oth x i e z
      rw [r2 x (by omega) (by omega) (by omega) o2 (by omega)]; exact MI_rt m2 ((rr t x i).mpr o1))
  refine ⟨n1, n2, ⟨fun x i z hv => ?_, fun x i hx hz hn => ?_, als, ?_⟩, IT_c (s1 72 (by omega)) (r1 34 (by decide) (by decide) (by decide) (by decide) (by decide)) (r1 35 (by decide) (by decide) (by decide) (by decide) (by decide)) (r1 28 (by decide) (by decide) (by decide) (by decide) (by decide)) i1, IT_c (s2 72 (by omega)) (r2 34 (by decide) (by decide) (by decide) (by decide) (by decide)) (r2 35 (by decide) (by decide) (by decide) (by decide) (by decide)) (r2 28 (by decide) (by decide) (by decide) (by decide) (by decide)) i2, u1, (s1 56 (by omega)).trans e1, (s2 56 (by omega)).trans e2, (s1 57 (by omega)).trans w1, hw, x1, x2, ⟨by rw [r1 2 (by decide) (by decide) (by decide) (by decide) (by decide)]; exact ty1, by rw [r1 2 (by decide) (by decide) (by decide) (by decide) (by decide), r2 2 (by decide) (by decide) (by decide) (by decide) (by decide)]; exact ty2⟩, a, (s1 95 (by omega)).trans a1, a2⟩
  · rw [r1 28 (by decide) (by decide) (by decide) (by decide) (by decide), r2 28 (by decide) (by decide) (by decide) (by decide) (by decide)]
    by_cases e : x = 29 ∨ x = 30 ∨ x = 31 ∨ x = 33
    · rcases hp x i e z with ⟨a', i', j0, j1, j2, j3⟩ | ⟨j2, j3⟩
      · rw [j2, j3]; exact hR.1 a' i' j1 j0
      · rw [j2, j3]; exact VC_00
    · obtain ⟨o1, o2⟩ := oth x i e z
      rw [r1 x (by omega) (by omega) (by omega) o2 (by omega), r2 x (by omega) (by omega) (by omega) o2 (by omega)]; exact hR.1 x i o1 hv
  · by_cases e30 : x = 30
    · rw [e30] at hz hn ⊢; exact al30 i hz hn
    by_cases e31 : x = 31
    · rw [e31] at hz hn ⊢; exact al31 i hz hn
    by_cases e32 : x = 32
    · rw [e32] at hn ⊢; exact al32 i hn
    by_cases e33 : x = 33
    · exact absurd (Or.inl e33) hz
    have e : x ≠ 29 := by unfold AlR at hx; omega
    rw [r1 x e e30 e31 e32 e33, r2 x e e30 e31 e32 e33]
    refine hR.2.1 x i hx hz (fun y => hn ?_)
    unfold InA at y ⊢
    rw [s1 72 (by omega), s1 22 (by omega), s1 24 (by omega), s1 30 (by omega), s1 44 (by omega), r1 21 (by omega) (by omega) (by omega) (by omega) (by omega)]
    rcases y with y | y | y | y
    · exact absurd y.1 e30
    · exact absurd y.1 e31
    · exact absurd y.1 e32
    · exact Or.inr (Or.inr (Or.inr y))
  · rw [l1, l2]; exact hR.2.2.2
theorem EI_mv (hE : EI t w XC σ1 σ2) (s1 : ∀ j, j = 54 ∨ j = 55 ∨ j = 56 ∨ j = 57 ∨ j = 72 ∨ j = 95 ∨ j = 22 ∨ j = 24 ∨ j = 30 ∨ j = 44 → τ1.1 j = σ1.1 j) (s2 : ∀ j, j = 54 ∨ j = 55 ∨ j = 56 ∨ j = 57 ∨ j = 72 ∨ j = 95 ∨ j = 22 ∨ j = 24 ∨ j = 30 ∨ j = 44 → τ2.1 j = σ2.1 j) (l1 : τ1.2.1 = σ1.2.1) (l2 : τ2.2.1 = σ2.2.1) (r1 : ∀ a, a ≠ 29 → a ≠ 30 → a ≠ 31 → a ≠ 32 → a ≠ 33 → τ1.2.2 a = σ1.2.2 a) (r2 : ∀ a, a ≠ 29 → a ≠ 30 → a ≠ 31 → a ≠ 32 → a ≠ 33 → τ2.2.2 a = σ2.2.2 a) (u1 : τ1.1 59 = nI u) (q1 : RtQ τ1) (al30 : ∀ i, ¬ Zn 30 i → ¬ InA τ1 30 i → τ1.2.2 30 i = τ2.2.2 30 i) (al31 : ∀ i, ¬ Zn 31 i → ¬ InA τ1 31 i → τ1.2.2 31 i = τ2.2.2 31 i) (al32 : ∀ i, ¬ InA τ1 32 i → τ1.2.2 32 i = τ2.2.2 32 i) (als : ∀ j, AlS j → τ1.1 j = τ2.1 j) (hp : ∀ a i, a = 29 ∨ a = 30 ∨ a = 31 ∨ a = 33 → RtP u τ1 a i → (∃ a' i', ¬ VwR a' ∧ RtP t σ1 a' i' ∧ τ1.2.2 a i = σ1.2.2 a' i' ∧ τ2.2.2 a i = σ2.2.2 a' i') ∨ (τ1.2.2 a i = 0 ∧ τ2.2.2 a i = 0)) : EI u w XC τ1 τ2 := by
  obtain ⟨g1, l1', B1, h1, X1, g2, l2', B2, h2, X2, hE⟩ := hE
  exact ⟨g1, l1', B1, h1, X1, g2, l2', B2, h2, X2, EIx_mv hE s1 s2 l1 l2 r1 r2 u1 q1 al30 al31 al32 als hp⟩
/-- a number of the state is written (no place for a value, not how many calls or iterators) -/
theorem EIx_n30 {g1 g2 : Nat → Prop} {l1' l2' : List Nat} {B1 h1 X1 B2 h2 X2 : Nat} {i : Nat} {x : Int32} (hi : ¬ Zn 30 i ∧ i ≠ 1 ∧ i ≠ 3) (hal : ∀ j, j ≠ i → ¬ Zn 30 j → ¬ InA (mAr σ1 30 i x) 30 j → σ1.2.2 30 j = σ2.2.2 30 j) (hE : EIx t w XC σ1 σ2 g1 l1' B1 h1 X1 g2 l2' B2 h2 X2) : EIx t w XC (mAr σ1 30 i x) (mAr σ2 30 i x) g1 l1' B1 h1 X1 g2 l2' B2 h2 X2 := by
  have hE0 := hE
  obtain ⟨m1, m2, hR, _, _, t1, _⟩ := hE0
  have o : ∀ (σ : MS) j, j ≠ i → (mAr σ 30 i x).2.2 30 j = σ.2.2 30 j := fun σ j hj => by rw [mAr_s, upd_other hj]
  have rb : ∀ (σ : MS) a j, RtP t (mAr σ 30 i x) a j ↔ RtP t σ a j := fun σ a j => RtP_b (σ := σ) (τ := mAr σ 30 i x) rfl rfl (o σ 1 (fun e => hi.2.1 e.symm)) (o σ 3 (fun e => hi.2.2 e.symm)) (mAr_o (by decide)) a j
  refine EIx_mv hE (fun _ _ => rfl) (fun _ _ => rfl) rfl rfl (fun a _ h _ _ _ => mAr_o h) (fun a _ h _ _ _ => mAr_o h) t1 (RtQ_b (σ := σ1) (τ := mAr σ1 30 i x) rfl rfl (o _ 1 (fun e => hi.2.1 e.symm)) (o _ 3 (fun e => hi.2.2 e.symm)) (mAr_o (by decide)) m1.2.1) (fun j hj hn => ?_) (fun j hj hn => ?_) (fun j hn => ?_) hR.2.2.1 (fun a j ha z => ?_)
  · rw [mAr_s, mAr_s]
    by_cases e : j = i
    · rw [e, upd_same, upd_same]
    · rw [upd_other e, upd_other e]; exact hal j e hj hn
  · rw [mAr_o (by decide), mAr_o (by decide)]; exact hR.2.1 31 j (by unfold AlR; omega) hj (fun y => hn (InA_31 (σ := σ1) rfl (mAr_o (by decide)) y))
  · rw [mAr_o (by decide), mAr_o (by decide)]; exact hR.2.1 32 j (by unfold AlR; omega) (by unfold Zn; omega) (fun y => hn (InA_32 (σ := σ1) rfl y))
  · have z := (rb σ1 a j).mp z
    refine Or.inl ⟨a, j, by unfold VwR; omega, z, ?_, ?_⟩
    · by_cases e : a = 30
      · subst e
        rw [o _ j (fun e => hi.1 (e ▸ Zn_rt m1.2.1 z (by unfold AlR; omega)))]
      · rw [mAr_o e]
    · by_cases e : a = 30
      · subst e
        rw [o _ j (fun e => hi.1 (e ▸ Zn_rt m1.2.1 z (by unfold AlR; omega)))]
      · rw [mAr_o e]
theorem InA_w {i : Nat} {x : Int32} (hi : i ≠ 1 ∧ i ≠ 3 ∧ i ≠ 2) (a j : Nat) : InA (mAr σ1 30 i x) a j ↔ InA σ1 a j := by
  refine InA_c (σ := σ1) (ρ := mAr σ1 30 i x) rfl rfl rfl rfl rfl rfl (fun u _ => by rw [mAr_o (by decide)]) (fun k hk => ?_) (fun p _ k _ => ?_) a j
  · rw [mAr_s, upd_other (by omega)]
  · rw [mAr_o (by decide)]
theorem EIx_c30 {g1 g2 : Nat → Prop} {l1' l2' : List Nat} {B1 h1 X1 B2 h2 X2 : Nat} {i : Nat} {x : Int32} (hi : ¬ Zn 30 i ∧ i ≠ 1 ∧ i ≠ 3 ∧ i ≠ 2) (hE : EIx t w XC σ1 σ2 g1 l1' B1 h1 X1 g2 l2' B2 h2 X2) : EIx t w XC (mAr σ1 30 i x) (mAr σ2 30 i x) g1 l1' B1 h1 X1 g2 l2' B2 h2 X2 := EIx_n30 ⟨hi.1, hi.2.1, hi.2.2.1⟩ (fun j _ hz hn => hE.2.2.1.2.1 30 j (by unfold AlR; omega) hz (fun y => hn ((InA_w hi.2 30 j).mpr y))) hE
/-- fors are fewer -/
theorem EI_c2 {f f' : Nat} (h2 : σ1.2.2 30 2 = nI f) (hf : f ≤ 2000) (hf' : f' ≤ f) (hE : EI t w XC σ1 σ2) : EI t w XC (mAr σ1 30 2 (nI f')) (mAr σ2 30 2 (nI f')) := by
  obtain ⟨g1, l1', B1, h1, X1, g2, l2', B2, h2', X2, hE⟩ := hE
  refine ⟨g1, l1', B1, h1, X1, g2, l2', B2, h2', X2, EIx_n30 (by unfold Zn; omega) (fun j _ hz hn => hE.2.2.1.2.1 30 j (by unfold AlR; omega) hz (fun y => hn (InA_n30 (fun k hk => ?_) y))) hE⟩
  by_cases e : k = 2
  · rw [e, mAr_s, upd_same, h2, n_cl (p := f) (by omega), n_cl (p := f') (by omega)]; exact hf'
  · rw [mAr_s, upd_other e]; exact Nat.le_refl _
/-- one for more -/
theorem EI_f1 {f : Nat} (h2 : σ1.2.2 30 2 = nI f) (hf : f ≤ 2000) (hv : ∀ j, j = 3214 + 2 * f ∨ j = 3214 + 2 * f + 1 → σ1.2.2 30 j = σ2.2.2 30 j) (hE : EI t w XC σ1 σ2) : EI t w XC (mAr σ1 30 2 (nI (f + 1))) (mAr σ2 30 2 (nI (f + 1))) := by
  obtain ⟨g1, l1', B1, h1, X1, g2, l2', B2, h2', X2, hE⟩ := hE
  refine ⟨g1, l1', B1, h1, X1, g2, l2', B2, h2', X2, EIx_n30 (by unfold Zn; omega) (fun j _ hz hn => ?_) hE⟩
  by_cases c : j = 3214 + 2 * f ∨ j = 3214 + 2 * f + 1
  · exact hv j c
  refine hE.2.2.1.2.1 30 j (by unfold AlR; omega) hz (fun y => hn ?_)
  unfold InA at y ⊢
  rcases y with y | y
  · refine Or.inl ⟨rfl, ?_⟩
    have y := y.2
    unfold IaN at y ⊢
    rw [Nat.zero_add, Nat.zero_add, Nat.zero_add] at y ⊢
    rw [h2, n_cl (p := f) (by omega)] at y
    rw [mAr_s, upd_other (by decide), upd_same, upd_other (by decide), n_cl (p := f + 1) (by omega)]
    omega
  · omega
theorem EI_c30 {i : Nat} {x : Int32} (hi : ¬ Zn 30 i ∧ i ≠ 1 ∧ i ≠ 3 ∧ i ≠ 2) (hE : EI t w XC σ1 σ2) : EI t w XC (mAr σ1 30 i x) (mAr σ2 30 i x) := by
  obtain ⟨g1, l1', B1, h1, X1, g2, l2', B2, h2, X2, hE⟩ := hE
  exact ⟨g1, l1', B1, h1, X1, g2, l2', B2, h2, X2, EIx_c30 hi hE⟩
end EMV
/-- the totals: row 30 is another -/
theorem UT_30 {σ ρ : MS} (h : UT σ) (q : ∀ a, a ≠ 30 → a ≠ 29 → ρ.2.2 a = σ.2.2 a) (s63 : ρ.1 63 = σ.1 63) (s65 : ρ.1 65 = σ.1 65) (hc : ρ.1 30 = σ.1 30) (h64 : ρ.1 64 = nI (StS ρ)) (hle : StS ρ ≤ StS σ ∨ ∀ P, σ.1 63 = nI P → P ≤ 20 → StS ρ + suN (PtS σ) P ≤ 40000) (nuo : ∀ i, StI (ρ.2.2 30) 0 i → NUa (kC σ) (ρ.2.2 30) 0 i → ρ.2.2 30 i = 0) (cw : CWa (ρ.2.2 30) 0) : UT ρ := by
  obtain ⟨_, P, h63, hP, h65, h32, hl, o1, o2, o3, _, o5⟩ := h
  have sP : ∀ p, PtS ρ p = PtS σ p := fun p => by
    unfold PtS; rw [q 28 (by decide) (by decide), kC_r (q 20 (by decide) (by decide)) (q 21 (by decide) (by decide)) hc, q 31 (by decide) (by decide)]
  have sP' : suN (PtS ρ) P = suN (PtS σ) P := suN_c (fun p _ => sP p)
  refine ⟨h64, P, s63.trans h63, hP, ?_, fun p hp => ?_, ?_, ?_, ?_, ?_, cw, ?_⟩
  · rw [s65, sP']; exact h65
  · rw [q 32 (by decide) (by decide), sP]; exact h32 p hp
  · rw [sP']
    rcases hle with z | z
    · omega
    · exact z P h63 hP
  · rw [kC_r (q 20 (by decide) (by decide)) (q 21 (by decide) (by decide)) hc]; exact nuo
  · rw [q 31 (by decide) (by decide), kC_r (q 20 (by decide) (by decide)) (q 21 (by decide) (by decide)) hc]; exact o2
  · rw [q 33 (by decide) (by decide)]; exact o3
  · rw [q 31 (by decide) (by decide)]; exact fun p hp => ⟨(o5 p hp).1, ItP_c (q 28 (by decide) (by decide)) (fun j _ => by rw [q 31 (by decide) (by decide)]) (o5 p hp).2⟩
theorem NUa_m {K A A' : Nat → Int32} {b i : Nat} (h : ∀ j, 65 ≤ j → j < 214 → j % 3 = 2 → A' (b + j) = A (b + j)) : NUa K A' b i ↔ NUa K A b i := by
  unfold NUa
  by_cases y : 214 ≤ i ∧ i < 3214
  · rw [h (65 + 3 * ((i - 214) / 60)) (by omega) (by omega) (by omega)]
  · constructor
    · rintro (z | z)
      · exact Or.inl z
      · exact absurd ⟨z.1, z.2.1⟩ y
    · rintro (z | z)
      · exact Or.inl z
      · exact absurd ⟨z.1, z.2.1⟩ y
theorem UT_cw {σ : MS} (h : UT σ) : CWa (σ.2.2 30) 0 := by
  obtain ⟨_, P, _, _, _, _, _, _, _, _, cw, _⟩ := h
  exact cw
theorem UT_nu {σ : MS} (h : UT σ) : ∀ i, StI (σ.2.2 30) 0 i → NUa (kC σ) (σ.2.2 30) 0 i → σ.2.2 30 i = 0 := by
  obtain ⟨_, P, _, _, _, _, _, o1, _⟩ := h
  exact o1
/-- the totals: a number of the state is written -/
theorem UT_c30 {σ : MS} {i : Nat} {x : Int32} (hi : ¬ Zn 30 i ∧ i ≠ 1 ∧ i ≠ 3 ∧ ¬ (65 ≤ i ∧ i < 214 ∧ i % 3 = 2)) (hB : StB (σ.2.2 30) 0) (h : UT σ) : UT (mAr σ 30 i x) := by
  have o : ∀ j, j ≠ i → (mAr σ 30 i x).2.2 30 j = σ.2.2 30 j := fun j hj => by rw [mAr_s, upd_other hj]
  have q : ∀ a, a ≠ 30 → (mAr σ 30 i x).2.2 a = σ.2.2 a := fun a ha => mAr_o ha
  obtain ⟨c, n, b1, b2, b3, b4⟩ := hB
  obtain ⟨c', c1, c2, c3⟩ := UT_cw h
  have sc : (mAr σ 30 i x).1 = σ.1 := rfl
  generalize hr : mAr σ 30 i x = ρ at o q sc ⊢
  have st : ∀ j, StI (ρ.2.2 30) 0 j ↔ StI (σ.2.2 30) 0 j := fun j => StI_c (o _ (by omega)) (o _ (by omega))
  have nu : ∀ j, NUa (kC σ) (ρ.2.2 30) 0 j ↔ NUa (kC σ) (σ.2.2 30) 0 j := fun j => NUa_m (fun j h1 h2 h3 => o _ (by omega))
  have ne : ∀ j, StI (σ.2.2 30) 0 j → j ≠ i := fun j hj e => by
    unfold StI at hj
    rw [b1, b3, n_cl (p := c) (by omega), n_cl (p := n) (by omega)] at hj
    exact hi.1 (by rw [← e]; unfold Zn; omega)
  have sS : StS ρ = StS σ := by
    unfold StS SzS
    rw [q 28 (by decide), kC_r (q 20 (by decide)) (q 21 (by decide)) (by rw [sc])]
    refine suN_c (fun j hj => ?_)
    unfold szP
    have e : CtA (kC σ) (ρ.2.2 30) 0 j ↔ CtA (kC σ) (σ.2.2 30) 0 j := by unfold CtA; rw [st, nu]
    by_cases y : CtA (kC σ) (σ.2.2 30) 0 j
    · rw [if_pos y, if_pos (e.mpr y), o (0 + j) (ne _ y.1)]
    · rw [if_neg y, if_neg (fun z => y (e.mp z))]
  refine UT_30 h (fun a h1 _ => q a h1) (by rw [sc]) (by rw [sc]) (by rw [sc]) (by rw [sc, sS]; exact h.1) (Or.inl (by rw [sS]; exact Nat.le_refl _)) (fun j h1 h2 => ?_) ⟨c', (o _ (by omega)).trans c1, c2, fun j hj => ?_⟩
  · have h1 := (st j).mp h1
    rw [o j (ne j h1)]; exact UT_nu h j h1 ((nu j).mp h2)
  · rw [o _ (by omega)]; exact c3 j hj
