/-! The house looks a name up, from the newest on. -/
/-- name j of program b is the one of these two numbers, and to be seen -/
abbrev cIs (σ : CS) (b : Bool) (hi lo : Int64) (j : Nat) : Prop := σ.2.2.2.1 (pR5 b) j = hi ∧ σ.2.2.2.1 (pR6 b) j = lo ∧ σ.2.2.1 (pR10 b) j = 0
theorem s_found {σ : CS} {b : Bool} {c : Nat} (hc : σ.1 (fP b 11) = nI c) (hc2 : c ≤ 256) (L : LV) (hb : L.2.2.1 0 = b) : Tm (fun k => y_X7_found__P k 0 L σ) (fun r => r.2 = σ ∧ ((∃ k, k < c ∧ r.1 = nI k ∧ cIs σ b (L.2.1 1) (L.2.1 3) k ∧ ∀ j, k < j → j < c → ¬ cIs σ b (L.2.1 1) (L.2.1 3) j) ∨ (r.1 = -1 ∧ ∀ j, j < c → ¬ cIs σ b (L.2.1 1) (L.2.1 3) j))) := by
  have loop : ∀ (k : Nat) (M : LV), k ≤ c → M.2.2.1 0 = b → M.2.1 1 = L.2.1 1 → M.2.1 3 = L.2.1 3 → M.1 5 = nI k - 1 → (∀ j, k ≤ j → j < c → ¬ cIs σ b (L.2.1 1) (L.2.1 3) j) → Tm (fun q => y_X7_found__P q 1 M σ) (fun r => r.2 = σ ∧ ((∃ k, k < c ∧ r.1 = nI k ∧ cIs σ b (L.2.1 1) (L.2.1 3) k ∧ ∀ j, k < j → j < c → ¬ cIs σ b (L.2.1 1) (L.2.1 3) j) ∨ (r.1 = -1 ∧ ∀ j, j < c → ¬ cIs σ b (L.2.1 1) (L.2.1 3) j))) := by
    intro k
    induction k with
    | zero =>
      intro M hk mb m1 m3 m5 hno
      refine Tm_suc (fun q => by rw [y_X7_found__P]) ?_
      rw [m5]
      refine Tm_ite (fun _ => ?_) (fun g => absurd (by decide) g)
      refine Tm_suc (fun q => by rw [y_X7_found__P]) ?_
      exact Tm_some ⟨rfl, Or.inr ⟨rfl, fun j hj => hno j (by omega) hj⟩⟩
    | succ k ih =>
      intro M hk mb m1 m3 m5 hno
      have m5 : M.1 5 = nI k := by rw [m5, show nI (k + 1) - 1 = nI (k + 1 - 1) from n_sub (q := 1) (by omega) (by omega)]; rfl
      have next : ¬ cIs σ b (L.2.1 1) (L.2.1 3) k → Tm (fun q => y_X7_found__P q 3 M σ) (fun r => r.2 = σ ∧ ((∃ k, k < c ∧ r.1 = nI k ∧ cIs σ b (L.2.1 1) (L.2.1 3) k ∧ ∀ j, k < j → j < c → ¬ cIs σ b (L.2.1 1) (L.2.1 3) j) ∨ (r.1 = -1 ∧ ∀ j, j < c → ¬ cIs σ b (L.2.1 1) (L.2.1 3) j))) := fun h => by
        refine Tm_suc (fun q => by rw [y_X7_found__P]) ?_
        rw [m5]
        refine ih (lI M 5 (nI k + -1)) (by omega) mb m1 m3 (by rw [lI_same]; exact (Int32.sub_eq_add_neg (nI k) 1).symm) (fun j hj hjc => ?_)
        by_cases e : j = k
        · rw [e]; exact h
        · exact hno j (by omega) hjc
      refine Tm_suc (fun q => by rw [y_X7_found__P]) ?_
      rw [m5, mb, m1, m3]
      refine Tm_ite (fun g => ?_) (fun _ => ?_)
      · rw [i_lt, n_int (by omega), i_c0] at g; omega
      refine Tm_chk (n_in (by omega) (by omega)) ?_
      rw [n_cl (p := k) (by omega)]
      refine Tm_ite (fun g1 => ?_) (fun g1 => next (fun h => g1 (nbCmp_0.mpr h.1)))
      refine Tm_chk (by rw [i_lt, n_int (p := k) (by omega), i_c0]; omega) ?_
      refine Tm_ite (fun g2 => ?_) (fun g2 => next (fun h => g2 (nbCmp_0.mpr h.2.1)))
      refine Tm_chk (by rw [i_lt, n_int (p := k) (by omega), i_c0]; omega) ?_
      refine Tm_ite (fun g3 => ?_) (fun g3 => next (fun h => g3 h.2.2))
      exact Tm_some ⟨rfl, Or.inl ⟨k, by omega, rfl, ⟨nbCmp_0.mp g1, nbCmp_0.mp g2, g3⟩, fun j hj hjc => hno j (by omega) hjc⟩⟩
  refine Tm_suc (fun k => by rw [y_X7_found__P]) ?_
  rw [hb, hc]
  exact loop c (lI L 5 (nI c - 1)) (Nat.le_refl _) hb rfl rfl (by rw [lI_same]) (fun j hj hjc => by omega)
