/-! Ifs of the reference: the branches. -/
section STM
variable {T : Nat → Int32} {n : Nat} {E : En} {o M P lp : Nat} {MD : Nat → Nat → Nat} {σ : MS}
/-- a branch's block has been read: its node, and on -/
theorem if6 {d e m K q v : Nat} {b : BT} {s : SB} {x : Option ST} {ρ : MS} {N : Nat → Int32} (hZ : PZ T n MD E lp (o + 1) q v b s ρ) (hF : FrZ M P E.2.2.2.1 σ ρ) (hN : N 1 = nI e) (hN6 : N 6 = nI m) (he : M ≤ e) (he2 : e < 70000) (hM : M ≤ b.1) (hK : b.1 ≤ K)
    (hno : ¬ tkK T n q = 41 → ∀ N' : Nat → Int32, N' 1 = nI e → N' 2 = nI m → Tm (fun k => x_GS k (d + 1) 2 10 N' ρ) (PoZ T n MD E lp o M P K σ x))
    (hflt : tkK T n q = 41 → tkK T n (tkN T n q) = 0 → x = none)
    (hyes : tkK T n q = 41 → ¬ tkK T n (tkN T n q) = 0 → ∀ (ρ' : MS) (N' : Nat → Int32), FrZ M P E.2.2.2.1 σ ρ' → PZ T n MD E lp (o + 1) (tkN T n q) v b s ρ' → N' 1 = nI e → N' 2 = nI m → N' 3 = 1 → N' 4 = 0 → Tm (fun k => x_GS k (d + 1) 2 2 N' ρ') (PoZ T n MD E lp o M P K σ x)) : Tm (fun k => x_GS k (d + 1) 2 6 N ρ) (PoZ T n MD E lp o M P K σ x) := by
  have hS := hZ.1
  refine Tm_suc (fun k => by rw [xS_2]) ?_
  refine Tm_ite (fun _ => ?_) (fun z => absurd (PS_ok hS) z)
  refine Tm_ob (p_word hS (s := 9) (by decide) rfl) (fun r1 hr1 => ?_)
  obtain ⟨u, τ⟩ := r1
  obtain ⟨h3, hr1⟩ := hr1
  have h3 : τ = ρ := h3
  subst h3
  refine Tm_ite (fun z => ?_) (fun z => ?_)
  · refine Tm_suc (fun k => by rw [xS_2]) ?_
    show Tm (fun k => x_GS k (d + 1) 2 8 (upd (upd (upd N 2 (N 6)) 4 0) 100 0) τ) _
    refine Tm_suc (fun k => by rw [xS_2]) ?_
    show Tm (fun k => x_GS k (d + 1) 2 9 (upd (upd (upd (upd N 2 (N 6)) 4 0) 100 0) 3 0) τ) _
    refine Tm_suc (fun k => by rw [xS_2]) ?_
    show Tm (fun k => x_GS k (d + 1) 2 2 (upd (upd (upd (upd N 2 (N 6)) 4 0) 100 0) 3 0) τ) _
    refine Tm_suc (fun k => by rw [xS_2]) ?_
    show Tm (fun k => x_GS k (d + 1) 2 10 (upd (upd (upd (upd N 2 (N 6)) 4 0) 100 0) 3 0) τ) _
    exact hno (fun y => hr1.mpr y z) _ (by rw [upd_other (by decide), upd_other (by decide), upd_other (by decide), upd_other (by decide)]; exact hN) (by rw [upd_other (by decide), upd_other (by decide), upd_other (by decide), upd_same]; exact hN6)
  · have hK41 := hr1.mp z
    show Tm (fun k => x_GS k (d + 1) 2 8 (upd (upd (upd N 2 (N 6)) 4 0) 100 1) τ) _
    refine Tm_suc (fun k => by rw [xS_2]) ?_
    show Tm (fun k => ob (x_take k 0 (fun _ => 0) τ) (fun r2 => x_GS k (d + 1) 2 9 (upd (upd (upd (upd N 2 (N 6)) 4 0) 100 1) 3 1) r2.2)) _
    have j1 : upd (upd (upd (upd N 2 (N 6)) 4 0) 100 1) 3 1 1 = nI e := by rw [upd_other (by decide), upd_other (by decide), upd_other (by decide), upd_other (by decide)]; exact hN
    have j2 : upd (upd (upd (upd N 2 (N 6)) 4 0) 100 1) 3 1 2 = nI m := by rw [upd_other (by decide), upd_other (by decide), upd_other (by decide), upd_same]; exact hN6
    have j3 : upd (upd (upd (upd N 2 (N 6)) 4 0) 100 1) 3 1 3 = 1 := upd_same
    have j4 : upd (upd (upd (upd N 2 (N 6)) 4 0) 100 1) 3 1 4 = 0 := by rw [upd_other (by decide), upd_other (by decide), upd_same]
    generalize upd (upd (upd (upd N 2 (N 6)) 4 0) 100 1) 3 1 = N' at j1 j2 j3 j4
    refine Tm_ob (p_take (M := M) (P := P) (w := E.2.2.2.1) hS _) (fun r4 hr4 => ?_)
    refine Tm_suc (fun k => by rw [xS_2]) ?_
    show Tm (fun k => x_GS k (d + 1) 2 2 N' r4.2) _
    rcases hr4.2 with ⟨t4, hB⟩ | ⟨t4, hS4⟩
    · have hx := hflt hK41 t4
      subst hx
      exact if2b hB (FrZ_tr hF (FrZ_of hr4.1)) j1 he he2 hK hM
    · exact hyes hK41 t4 r4.2 N' (FrZ_tr hF (FrZ_of hr4.1)) (PZ_fr2 hZ hS4 hr4.1 hZ.2.2.1.2) j1 j2 j3 j4
end STM
