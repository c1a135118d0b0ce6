/-! Ifs of the reference: after a fault. -/
section STM
variable {T : Nat → Int32} {n : Nat} {E : En} {o q v M P w lp : Nat} {b : BT} {s : SB} {MD : Nat → Nat → Nat} {σ τ : MS}
theorem if11b {d m e K : Nat} {ρ : MS} {N : Nat → Int32} (hB : Bb m ρ) (hF : FrZ M P E.2.2.2.1 σ ρ) (hN : N 1 = nI e) (he : M ≤ e) (he2 : e < 70000) (hK : m ≤ K) (hM : M ≤ m) : Tm (fun k => x_GS k d 2 11 N ρ) (PoZ T n MD E lp o M P K σ none) := by
  refine Tm_suc (fun k => by rw [xS_2]) ?_
  refine Tm_ob (b_wantWord hB.1 _) (fun r hr => ?_)
  obtain ⟨u, τ⟩ := r
  have hr : τ = ρ := hr
  subst hr
  refine Tm_ob (b_want hB.1 _) (fun r hr => ?_)
  obtain ⟨u, ρ2⟩ := r
  have hr : ρ2 = τ := hr
  subst hr
  show Tm (fun k => x_GS k d 2 12 N (mOpn ρ2 (ρ2.1 13 - 1))) _
  refine Tm_suc (fun k => by rw [xS_2]) ?_
  exact Tm_some ⟨⟨m, Bb_opn hB _, hK, hM⟩, ⟨e, hN, he2, Or.inr he⟩, FrZ_tr hF (FrZ_of (FrM_opn _))⟩
theorem if10b {d m e K : Nat} {ρ : MS} {N : Nat → Int32} (hB : Bb m ρ) (hF : FrZ M P E.2.2.2.1 σ ρ) (hN : N 1 = nI e) (he : M ≤ e) (he2 : e < 70000) (hK : m ≤ K) (hM : M ≤ m) : Tm (fun k => x_GS k d 2 10 N ρ) (PoZ T n MD E lp o M P K σ none) := by
  refine Tm_suc (fun k => by rw [xS_2]) ?_
  refine Tm_ite (fun z => absurd z hB.1) (fun _ => ?_)
  exact if11b hB hF hN he he2 hK hM
theorem if2b {d m e K : Nat} {ρ : MS} {N : Nat → Int32} (hB : Bb m ρ) (hF : FrZ M P E.2.2.2.1 σ ρ) (hN : N 1 = nI e) (he : M ≤ e) (he2 : e < 70000) (hK : m ≤ K) (hM : M ≤ m) : Tm (fun k => x_GS k d 2 2 N ρ) (PoZ T n MD E lp o M P K σ none) := by
  refine Tm_suc (fun k => by rw [xS_2]) ?_
  refine Tm_ite (fun _ => if10b hB hF hN he he2 hK hM) (fun _ => ?_)
  refine Tm_ite (fun z => absurd z hB.1) (fun _ => ?_)
  exact if10b hB hF hN he he2 hK hM
theorem if6b {d m e K : Nat} {ρ : MS} {N : Nat → Int32} (hB : Bb m ρ) (hF : FrZ M P E.2.2.2.1 σ ρ) (hN : N 1 = nI e) (he : M ≤ e) (he2 : e < 70000) (hK : m ≤ K) (hM : M ≤ m) : Tm (fun k => x_GS k d 2 6 N ρ) (PoZ T n MD E lp o M P K σ none) := by
  refine Tm_suc (fun k => by rw [xS_2]) ?_
  refine Tm_ite (fun z => absurd z hB.1) (fun _ => ?_)
  refine Tm_suc (fun k => by rw [xS_2]) ?_
  show Tm (fun k => x_GS k d 2 8 (upd (upd (upd N 2 (N 6)) 4 0) 100 0) ρ) _
  refine Tm_suc (fun k => by rw [xS_2]) ?_
  show Tm (fun k => x_GS k d 2 9 (upd (upd (upd (upd N 2 (N 6)) 4 0) 100 0) 3 0) ρ) _
  refine Tm_suc (fun k => by rw [xS_2]) ?_
  show Tm (fun k => x_GS k d 2 2 (upd (upd (upd (upd N 2 (N 6)) 4 0) 100 0) 3 0) ρ) _
  exact if2b hB hF (by rw [upd_other (by decide), upd_other (by decide), upd_other (by decide), upd_other (by decide)]; exact hN) he he2 hK hM
/-- a branch's node after a fault -/
theorem ifNb {d m e K : Nat} {ρ : MS} {N L : Nat → Int32} (hB : Bb m ρ) (hF : FrZ M P E.2.2.2.1 σ ρ) (hN : N 1 = nI e) (he : M ≤ e) (he2 : e < 70000) (hm : m < 70000) (hK : m + 1 ≤ K) (hM : M ≤ m) (hN2 : N 4 = 0 → ∃ l, N 2 = nI l ∧ M ≤ l ∧ l < 70000) : Tm (fun k => ob (x_node k 0 L ρ) (fun r3 => if N 4 = 0 then x_GS k d 2 5 (upd N 6 r3.1) r3.2 else (if ¬ (N 1 < 0 ∨ 70000 ≤ (N 1).toNatClampNeg) then x_GS k d 2 6 (upd N 6 r3.1) (mSet r3.2 5 (N 1).toNatClampNeg r3.1) else none))) (PoZ T n MD E lp o M P K σ none) := by
  refine Tm_ob (b_node (M := M) (P := P) (w := E.2.2.2.1) hB hm hM _) (fun r hr => ?_)
  have hF1 := FrZ_tr hF (FrZ_of hr.2.2)
  have j1 : upd N 6 r.1 1 = nI e := by rw [upd_other (by decide)]; exact hN
  refine Tm_ite (fun z => ?_) (fun z => ?_)
  · obtain ⟨l, l1, l2, l3⟩ := hN2 z
    have j2 : upd N 6 r.1 2 = nI l := by rw [upd_other (by decide)]; exact l1
    generalize upd N 6 r.1 = N' at j1 j2
    refine Tm_suc (fun k => by rw [xS_2]) ?_
    show Tm (fun k => if ¬ (N' 2 < 0 ∨ 70000 ≤ (N' 2).toNatClampNeg) then x_GS k d 2 6 N' (mSet r.2 9 (N' 2).toNatClampNeg (N' 6)) else none) _
    rw [j2]
    refine Tm_chk (n_in (by omega) (by omega)) ?_
    rw [n_cl (p := l) (by omega)]
    exact if6b (Bb_set hr.2.1) (FrZ_tr hF1 (FrZ_of (FrM_set (by decide) (by decide) (Or.inr l2) _))) j1 he he2 hK (by omega)
  · rw [hN]
    refine Tm_chk (n_in (by omega) (by omega)) ?_
    rw [n_cl (p := e) (by omega)]
    exact if6b (Bb_set hr.2.1) (FrZ_tr hF1 (FrZ_of (FrM_set (by decide) (by decide) (Or.inr he) _))) j1 he he2 hK (by omega)
theorem if4b {d m e K : Nat} {ρ : MS} {N : Nat → Int32} (hB : Bb m ρ) (hF : FrZ M P E.2.2.2.1 σ ρ) (hN : N 1 = nI e) (he : M ≤ e) (he2 : e < 70000) (hm : m < 70000) (hK : m + 1 ≤ K) (hM : M ≤ m) (hN2 : N 4 = 0 → ∃ l, N 2 = nI l ∧ M ≤ l ∧ l < 70000) : Tm (fun k => x_GS k (d + 1) 2 4 N ρ) (PoZ T n MD E lp o M P K σ none) := by
  refine Tm_suc (fun k => by rw [xS_2]) ?_
  refine Tm_ob (b_wantWord hB.1 _) (fun r hr => ?_)
  obtain ⟨u, τ⟩ := r
  have hr : τ = ρ := hr
  subst hr
  refine Tm_ob (b_block (d := d) hB.1) (fun r hr => ?_)
  obtain ⟨u, ρ2⟩ := r
  have hr : ρ2 = τ := hr
  subst hr
  exact ifNb (d := d + 1) (L := upd (upd (upd (upd (fun _ => 0) 1 33) 2 (N 5)) 3 u) 4 0) hB hF hN he he2 hm hK hM hN2
end STM
