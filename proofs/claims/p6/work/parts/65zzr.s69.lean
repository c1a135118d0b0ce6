/-! A statement of the reference: from its beginning. -/
section STM
variable {T : Nat → Int32} {n : Nat} {E : En} {o q v M P w lp : Nat} {b : BT} {s : SB} {MD : Nat → Nat → Nat} {σ τ : MS}
theorem st5b {d m K : Nat} {ρ : MS} {N : Nat → Int32} (hB : Bb m ρ) (hF : FrZ M P E.2.2.2.1 σ ρ) (hK : m ≤ K) (hM : M ≤ m) : Tm (fun k => x_GS k d 3 6 N ρ) (PoZ T n MD E lp o M P K σ none) := by
  refine Tm_suc (fun k => by rw [xS_3]) ?_
  refine Tm_ite (fun z => absurd z hB.1) (fun _ => ?_)
  exact Tm_some ⟨⟨m, hB, hK, hM⟩, ⟨0, rfl, by decide, Or.inl rfl⟩, hF⟩
theorem e_statement {f d : Nat} {x : Option ST} {L : Nat → Int32} {pe : Int32} {i l : Nat} (H2 : SC T n MD f 2 2) (H4 : SC T n MD f 4 4) (H5 : SC T n MD f 5 1) (hG : GS T n MD (f + 1) 1 E lp o q v pe i l b s = some x) (hZ : PZ T n MD E lp o q v b s σ) (h1 : 1 ≤ M) (hM : M ≤ b.1) (hP : P ≤ b.2.1) (hn : b.1 + (n + 1 - q) + 967 + d ≤ 70000) (hp : b.2.1 + (n - q) ≤ 70000) (hd : 3 * (20 - o) ≤ d) : Tm (fun k => x_GS k d 3 0 L σ) (PoZ T n MD E lp o M P (b.1 + (n + 1 - q) + 964 + d) σ x) := by
  have hS := hZ.1
  have ho := PS_o hS
  simp only [GS] at hG
  refine Tm_suc (fun k => by rw [xS_3]) ?_
  refine Tm_ob (p_isSt hS _) (fun r hr => ?_)
  obtain ⟨u, τ⟩ := r
  obtain ⟨h3, hr⟩ := hr
  have h3 : τ = σ := h3
  subst h3
  refine Tm_ite (fun z => ?_) (fun z => ?_)
  · rw [if_pos (Or.inl (fun y => hr.mpr y z))] at hG
    have hx : x = none := (Option.some.inj hG).symm
    subst hx
    refine Tm_ob (p_cannot (M := M) (P := P) (w := E.2.2.2.1) hS _) (fun rc hrc => ?_)
    exact Tm_some ⟨⟨_, hrc.1, by omega, hM⟩, ⟨0, rfl, by decide, Or.inl rfl⟩, FrZ_of hrc.2⟩
  have hSt := hr.mp z
  -- how many statements
  have five : ∀ N : Nat → Int32, ¬ (isOp (tkK T n q) ∧ o = 20) → Tm (fun k => x_GS k d 3 5 N τ) (PoZ T n MD E lp o M P (b.1 + (n + 1 - q) + 964 + d) τ x) := fun N hop => by
    refine Tm_suc (fun k => by rw [xS_3]) ?_
    refine Tm_ite (fun _ => ?_) (fun z => absurd (PS_ok hS) z)
    have h44 : τ.1 44 = nI s.1 := hZ.2.2.2.1
    have hs4 := hZ.2.2.2.2.1
    rw [h44, show (400 : Int32) = nI 400 from rfl]
    refine Tm_ite (fun z => ?_) (fun z => ?_)
    · rw [n_eq (by omega) (by omega)] at z
      rw [if_pos (Or.inr (Or.inr z))] at hG
      have hx : x = none := (Option.some.inj hG).symm
      subst hx
      refine Tm_ob (p_fault (M := M) (P := P) (w := E.2.2.2.1) hS _) (fun rc hrc => ?_)
      exact st5b hrc.1 (FrZ_of hrc.2) (by omega) hM
    rw [n_eq (by omega) (by omega)] at z
    rw [if_neg (fun c => c.elim (fun c => c hSt) (fun c => c.elim hop z))] at hG
    refine Tm_suc (fun k => by rw [xS_3]) ?_
    refine Tm_ite (fun _ => ?_) (fun z => absurd (PS_ok hS) z)
    refine Tm_suc (fun k => by rw [xS_3]) ?_
    show Tm (fun k => x_GS k d 3 8 (upd N 2 (τ.1 44)) (mSt τ (τ.1 44 + 1))) _
    have h45 : τ.1 44 + 1 = nI (s.1 + 1) := by rw [h44]; exact n_add (p := s.1) (q := 1) (by omega)
    rw [h45]
    exact st8 H2 H4 H5 hG hSt (fun y w => hop ⟨y, w⟩) (PZ_st hZ z) (FrZ_st _) (by rw [upd_same]; exact h44) (by omega) h1 hM hP hn hp hd (Nat.le_refl _)
  have two : isOp (tkK T n q) → Tm (fun k => x_GS k d 3 2 L τ) (PoZ T n MD E lp o M P (b.1 + (n + 1 - q) + 964 + d) τ x) := fun hop => by
    refine Tm_suc (fun k => by rw [xS_3]) ?_
    show Tm (fun k => x_GS k d 3 4 (upd L 100 1) τ) _
    refine Tm_suc (fun k => by rw [xS_3]) ?_
    show Tm (fun k => if τ.1 13 = 20 then (ob (x_fault k 0 (upd (upd (fun _ => 0) 1 3) 2 (τ.1 8)) τ) (fun r3 => x_GS k d 3 5 (upd (upd L 100 1) 1 (upd L 100 1 100)) r3.2)) else (x_GS k d 3 5 (upd (upd L 100 1) 1 (upd L 100 1 100)) τ)) _
    rw [hS.2.1.1, show (20 : Int32) = nI 20 from rfl]
    refine Tm_ite (fun z => ?_) (fun z => ?_)
    · rw [n_eq (by omega) (by omega)] at z
      rw [if_pos (Or.inr (Or.inl ⟨hop, z⟩))] at hG
      have hx : x = none := (Option.some.inj hG).symm
      subst hx
      refine Tm_ob (p_fault (M := M) (P := P) (w := E.2.2.2.1) hS _) (fun rc hrc => ?_)
      refine Tm_suc (fun k => by rw [xS_3]) ?_
      refine Tm_ite (fun z => absurd z hrc.1.1) (fun _ => ?_)
      exact st5b hrc.1 (FrZ_of hrc.2) (by omega) hM
    · rw [n_eq (by omega) (by omega)] at z
      exact five _ (fun c => z c.2)
  have three : ¬ isOp (tkK T n q) → Tm (fun k => x_GS k d 3 3 L τ) (PoZ T n MD E lp o M P (b.1 + (n + 1 - q) + 964 + d) τ x) := fun hop => by
    refine Tm_suc (fun k => by rw [xS_3]) ?_
    show Tm (fun k => x_GS k d 3 4 (upd L 100 0) τ) _
    refine Tm_suc (fun k => by rw [xS_3]) ?_
    show Tm (fun k => x_GS k d 3 5 (upd (upd L 100 0) 1 (upd L 100 0 100)) τ) _
    exact five _ (fun c => hop c.1)
  refine Tm_suc (fun k => by rw [xS_3]) ?_
  refine Tm_ob (p_word hS (s := 7) (by decide) rfl) (fun r1 hr1 => ?_)
  obtain ⟨u1, ρ1⟩ := r1
  obtain ⟨h3, hr1⟩ := hr1
  have h3 : ρ1 = τ := h3
  subst h3
  refine Tm_ite (fun z1 => ?_) (fun z => two (Or.inl (hr1.mp z)))
  refine Tm_ob (p_word hS (s := 11) (by decide) rfl) (fun r2 hr2 => ?_)
  obtain ⟨u2, ρ2⟩ := r2
  obtain ⟨h3, hr2⟩ := hr2
  have h3 : ρ2 = ρ1 := h3
  subst h3
  refine Tm_ite (fun z2 => ?_) (fun z => two (Or.inr (Or.inl (hr2.mp z))))
  refine Tm_ob (p_word hS (s := 13) (by decide) rfl) (fun r4 hr4 => ?_)
  obtain ⟨u4, ρ4⟩ := r4
  obtain ⟨h3, hr4⟩ := hr4
  have h3 : ρ4 = ρ2 := h3
  subst h3
  refine Tm_ite (fun z3 => ?_) (fun z => two (Or.inr (Or.inr (Or.inl (hr4.mp z)))))
  refine Tm_ob (p_sign hS (s := 10) (by decide) (by decide) rfl) (fun r5 hr5 => ?_)
  obtain ⟨u5, ρ5⟩ := r5
  obtain ⟨h3, hr5⟩ := hr5
  have h3 : ρ5 = ρ4 := h3
  subst h3
  refine Tm_ite (fun z5 => ?_) (fun z => two (Or.inr (Or.inr (Or.inr (hr5.mp z)))))
  refine three (fun y => ?_)
  rcases y with y | y | y | y
  · exact hr1.mpr y z1
  · exact hr2.mpr y z2
  · exact hr4.mpr y z3
  · exact hr5.mpr y z5
end STM
