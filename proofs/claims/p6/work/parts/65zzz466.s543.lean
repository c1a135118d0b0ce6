/-! The house: a program is moved down. -/
section DYS
variable {σ σ' τ : CS} {L : LV} {b : Bool} {N far e0 nu : Nat}
/-- what moving down leaves -/
def MvD (b : Bool) (N far e0 nu : Nat) (σ σ' : CS) : Prop := ((∀ j, ¬ (j = fP b 1 ∨ j = fP b 2) → σ'.1 j = σ.1 j) ∧ σ'.1 (fP b 1) = nI (N - far) ∧ σ'.1 (fP b 2) = nI (e0 - far)) ∧ σ'.2.1 = σ.2.1 ∧ ((∀ k, ¬ (k = pR0 (sKd σ b) ∨ k = pR13 b) → σ'.2.2.1 k = σ.2.2.1 k) ∧ (∀ i, i < N - far → σ'.2.2.1 (pR0 (sKd σ b)) i = σ.2.2.1 (pR0 (sKd σ b)) (i + far)) ∧ ∀ u, σ'.2.2.1 (pR13 b) u = if u ≤ nu then σ.2.2.1 (pR13 b) u - nI far else σ.2.2.1 (pR13 b) u) ∧ σ'.2.2.2 = σ.2.2.2
theorem c_moveDown (h0 : L.2.2.1 0 = b) (h1 : L.1 1 = nI far) (eN : σ.1 (fP b 1) = nI N) (ee : σ.1 (fP b 2) = nI e0) (eu : σ.1 (fP b 12) = nI nu) (hu : nu ≤ 40) (hf : far ≤ N ∧ far ≤ e0 ∧ e0 ≤ 36864) (hN : N ≤ cdn b σ) (hc : cdn b σ ≤ 36864) : Tm (fun k => y_X7_moveDown__P k 0 L σ) (fun r => MvD b N far e0 nu σ r.2) := by
  have fn := fP_ns b
  have f9 := fP_19 b
  have pr := pR_13 b
  have p0 := pR0_c (sKd σ b)
  have s1 : nI N - nI far = nI (N - far) := u_eq.2 (by rw [u_sub (by rw [u_n (by omega), u_n (by omega)]; omega), u_n (by omega), u_n (by omega), u_n (by omega)])
  have s2 : nI e0 - nI far = nI (e0 - far) := u_eq.2 (by rw [u_sub (by rw [u_n (by omega), u_n (by omega)]; omega), u_n (by omega), u_n (by omega), u_n (by omega)])
  refine Tm_suc (fun k => by rw [y_X7_moveDown__P]) ?_
  rw [h0, h1, eN, s1, uI_o (show fP b 2 ≠ fP b 1 by omega), ee, s2, uI_o (show fP b 1 ≠ fP b 2 by omega), uI_s]
  have cl1 : (nI far).toNatClampNeg = far := n_cl (p := far) (by omega)
  have cl2 : (nI (N - far)).toNatClampNeg = N - far := n_cl (p := N - far) (by omega)
  have ng1 : ¬ nI far < 0 := fun z => by have := (u_neg _).1 z; rw [u_n (by omega)] at this; omega
  have ng2 : ¬ nI (N - far) < 0 := fun z => by have := (u_neg _).1 z; rw [u_n (by omega)] at this; omega
  have hN' : N ≤ sN σ (pR0 (sKd σ b)) := hN
  refine Tm_chk ⟨ng1, by decide, ng2, ?_, ?_⟩ ?_
  · rw [cl1, cl2]
    show far + (N - far) ≤ sN σ (pR0 (sKd σ b))
    omega
  · rw [cl2]
    show 0 + (N - far) ≤ sN σ (pR0 (sKd σ b))
    omega
  rw [cl1, cl2]
  generalize hs : uF (uI (uI σ (fP b 1) (nI (N - far))) (fP b 2) (nI (e0 - far))) (pR0 (sKd (uI (uI σ (fP b 1) (nI (N - far))) (fP b 2) (nI (e0 - far))) b)) (va_cpy ((uI (uI σ (fP b 1) (nI (N - far))) (fP b 2) (nI (e0 - far))).2.2.1 (pR0 (sKd (uI (uI σ (fP b 1) (nI (N - far))) (fP b 2) (nI (e0 - far))) b))) ((uI (uI σ (fP b 1) (nI (N - far))) (fP b 2) (nI (e0 - far))).2.2.1 (pR0 (sKd (uI (uI σ (fP b 1) (nI (N - far))) (fP b 2) (nI (e0 - far))) b))) far (0 : Int32).toNatClampNeg (N - far)) = s
  have a1 : ∀ j, ¬ (j = fP b 1 ∨ j = fP b 2) → s.1 j = σ.1 j := fun j hj => by
    rw [← hs]
    show (uI (uI σ (fP b 1) (nI (N - far))) (fP b 2) (nI (e0 - far))).1 j = _
    rw [uI_o (by omega), uI_o (by omega)]
  have a2 : s.1 (fP b 1) = nI (N - far) := by
    rw [← hs]
    show (uI (uI σ (fP b 1) (nI (N - far))) (fP b 2) (nI (e0 - far))).1 (fP b 1) = _
    rw [uI_o (by omega), uI_s]
  have a3 : s.1 (fP b 2) = nI (e0 - far) := by
    rw [← hs]
    show (uI (uI σ (fP b 1) (nI (N - far))) (fP b 2) (nI (e0 - far))).1 (fP b 2) = _
    rw [uI_s]
  have a4 : s.2.1 = σ.2.1 := by rw [← hs]; rfl
  have a5 : ∀ k, ¬ k = pR0 (sKd σ b) → s.2.2.1 k = σ.2.2.1 k := fun k hk => by
    rw [← hs]
    exact updG_other hk
  have a6 : ∀ i, i < N - far → s.2.2.1 (pR0 (sKd σ b)) i = σ.2.2.1 (pR0 (sKd σ b)) (i + far) := fun i hi => by
    rw [← hs]
    show updG σ.2.2.1 (pR0 (sKd σ b)) (va_cpy (σ.2.2.1 (pR0 (sKd σ b))) (σ.2.2.1 (pR0 (sKd σ b))) far (0 : Int32).toNatClampNeg (N - far)) (pR0 (sKd σ b)) i = _
    rw [updG_same]
    show (if 0 ≤ i ∧ i < 0 + (N - far) then σ.2.2.1 (pR0 (sKd σ b)) (far + (i - 0)) else σ.2.2.1 (pR0 (sKd σ b)) i) = _
    rw [if_pos (by omega), Nat.sub_zero, Nat.add_comm]
  have a7 : s.2.2.2 = σ.2.2.2 := by rw [← hs]; rfl
  have lp : ∀ (d i : Nat) (L' : LV) (τ : CS), d + i = nu + 1 → L'.2.2.1 0 = b → L'.1 1 = nI far → L'.1 2 = nI i → τ.1 = s.1 → τ.2.1 = s.2.1 → (∀ k, ¬ k = pR13 b → τ.2.2.1 k = s.2.2.1 k) → (∀ u, τ.2.2.1 (pR13 b) u = if u < i then s.2.2.1 (pR13 b) u - nI far else s.2.2.1 (pR13 b) u) → τ.2.2.2 = s.2.2.2 → Tm (fun k => y_X7_moveDown__P k 2 L' τ) (fun r => MvD b N far e0 nu σ r.2) := by
    intro d
    induction d with
    | zero =>
      intro i L' τ hd k0 k1 k2 e1 e2 e3 e4 e5
      refine Tm_suc (fun k => by rw [y_X7_moveDown__P]) ?_
      rw [k0, k2, e1, a1 _ (by omega), eu]
      refine Tm_yes ((n_lt (by omega) (by omega)).mpr (by omega)) ?_
      refine Tm_suc (fun k => by rw [y_X7_moveDown__P]) ?_
      refine Tm_some ⟨⟨fun j hj => by rw [e1]; exact a1 j hj, by rw [e1]; exact a2, by rw [e1]; exact a3⟩, by rw [e2]; exact a4, ⟨fun k hk => by rw [e3 k (fun z => hk (Or.inr z))]; exact a5 k (fun z => hk (Or.inl z)), fun i hi => by rw [e3 _ (by omega)]; exact a6 i hi, fun u => ?_⟩, by rw [e5]; exact a7⟩
      rw [e4 u, a5 _ (by omega)]
      by_cases z : u ≤ nu
      · rw [if_pos z, if_pos (by omega)]
      · rw [if_neg z, if_neg (by omega)]
    | succ d ih =>
      intro i L' τ hd k0 k1 k2 e1 e2 e3 e4 e5
      have ix : ¬ (nI i < 0 ∨ 42 ≤ (nI i).toNatClampNeg) := n_in (by omega) (by omega)
      refine Tm_suc (fun k => by rw [y_X7_moveDown__P]) ?_
      rw [k0, k1, k2, e1, a1 _ (by omega), eu]
      refine Tm_no (fun z => absurd ((n_lt (by omega) (by omega)).mp z) (by omega)) ?_
      refine Tm_chk ix (Tm_chk ix ?_)
      rw [n_cl (p := i) (by omega), n_add1]
      refine ih (i + 1) _ _ (by omega) k0 k1 rfl e1 e2 (fun k hk => by rw [uA_k hk]; exact e3 k hk) (fun u => ?_) e5
      rw [uA_r]
      by_cases z : u = i
      · rw [z, upd_same, if_pos (by omega), e4 i, if_neg (by omega)]
      · rw [upd_other z, e4 u]
        by_cases w : u < i
        · rw [if_pos w, if_pos (by omega)]
        · rw [if_neg w, if_neg (by omega)]
  refine Tm_suc (fun k => by rw [y_X7_moveDown__P]) ?_
  refine lp (nu + 1) 0 (lI L 2 0) s (by omega) h0 h1 rfl rfl rfl (fun _ _ => rfl) (fun u => ?_) rfl
  rw [if_neg (by omega)]
end DYS
