/-! The class: clearing of a for. -/
section CTH
variable {g g' g2 : Nat → Prop} {l l' l2 : List Nat} {t t' t2 : Nat} {σ σ' σ2 : CS} {L : LV} {x y i : Int32} {M M' U U' : Nat → Int32} {K K' K2 K2' K3 K4 K4' KB : Nat → Option Int32} {c : Ct} {B f0 u0 : Nat} {fs : List FrT} {u d : Nat} {r r' : List Nat} {pb nf nc sq rk : Nat}
theorem om_le {x : Int32} (h1 : 1 ≤ uN x) (h2 : uN x < 1024) : (1 : Int32) - x ≤ 0 := by
  have a : ∀ m, m < 1024 → 1 ≤ m → (1 : Int32) - nI m ≤ 0 := by decide +kernel
  have e : x = nI (uN x) := u_eq.2 (u_n (by omega)).symm
  rw [e]
  exact a _ h2 h1
theorem c_sizeOM (h : L.1 1 = -2147483648) : Tm (fun k => y_X1_size k 0 L σ) (fun r => r = (1, σ)) := by
  refine Tm_suc (fun k => by rw [y_X1_size]) ?_
  rw [h]
  refine Tm_yes (by decide) ?_
  refine Tm_suc (fun k => by rw [y_X1_size]) ?_
  rw [h]
  refine Tm_no (by decide) ?_
  refine Tm_no (by decide) ?_
  refine Tm_suc (fun k => by rw [y_X1_size]) ?_
  refine Tm_suc (fun k => by rw [y_X1_size]) ?_
  exact Tm_some rfl
theorem c_assignOM (p : Pre c g l t K K2 K3 K4 B KB f0 u0 σ fs u d r pb nf nc sq) (cs : tcS c u0) {j : Nat} (h1 : uN (L.1 1) = j) (h2 : L.1 2 = -2147483648) (wp : WP c g l t K2 K3 K4 B KB f0 u0 fs u d r pb nf nc sq (uN (σ.1 1901)) j) : Tm (fun k => y_X3_assign k 0 L σ) (fun q => ∃ K', Pre c g l t K' K2 K3 K4 B KB f0 u0 q.2 fs u d r pb nf nc sq ∧ Go c u0 σ q.2 ∧ q.2.1 1901 = σ.1 1901) := by
  have st := p.1.2.1.1
  have gx : Gv g (L.1 2) := by rw [h2]; exact Gv_om g
  have jl := (wp σ K _ p rfl gx).1
  have i1 : ¬ (L.1 1 < 0 ∨ sN σ 20 ≤ (L.1 1).toNatClampNeg) := u_in (by omega) (by omega)
  have c1 : (L.1 1).toNatClampNeg = j := by rw [u_cl (by omega)]; exact h1
  have b3 : ∀ (L' : LV) (τ : CS), L'.1 1 = L.1 1 → L'.1 2 = L.1 2 → Pre c g l t K K2 K3 K4 B KB f0 u0 τ fs u d r pb nf nc sq → Go c u0 σ τ → τ.1 1901 = σ.1 1901 → Tm (fun k => y_X3_assign k 3 L' τ) (fun q => ∃ K', Pre c g l t K' K2 K3 K4 B KB f0 u0 q.2 fs u d r pb nf nc sq ∧ Go c u0 σ q.2 ∧ q.2.1 1901 = σ.1 1901) := by
    intro L' τ l1 l2 pt gt f1
    have st' := pt.1.2.1.1
    obtain ⟨pa, ga⟩ := Pre_tl pt cs (Or.inr rfl) (L'.1 100)
    have z := wp _ K (L'.1 2) pa (by show uN (τ.1 1901) = _; rw [f1]) (by rw [l2]; exact gx)
    obtain ⟨z1, z2, z3⟩ := z
    refine Tm_suc (fun k => by rw [y_X3_assign]) ?_
    refine Tm_chk (by rw [l1]; exact u_in (by show uN (L.1 1) < sN τ 20; have z1' : j < uN (τ.1 1902) := z1; omega) (by show sN τ 20 ≤ _; omega)) ?_
    rw [l1, c1]
    exact Tm_some ⟨_, z2, Go_t gt (Go_t ga z3), f1⟩
  have b1 : ∀ (L' : LV), L'.1 1 = L.1 1 → L'.1 2 = L.1 2 → Tm (fun k => y_X3_assign k 1 L' σ) (fun q => ∃ K', Pre c g l t K' K2 K3 K4 B KB f0 u0 q.2 fs u d r pb nf nc sq ∧ Go c u0 σ q.2 ∧ q.2.1 1901 = σ.1 1901) := by
    intro L' l1 l2
    obtain ⟨pa, ga⟩ := Pre_tl p cs (Or.inl rfl) (σ.1 1909 + L'.1 4)
    refine Tm_suc (fun k => by rw [y_X3_assign]) ?_
    refine Tm_ite (fun _ => ?_) (fun _ => ?_)
    · refine Tm_suc (fun k => by rw [y_X3_assign]) ?_
      exact b3 _ _ l1 l2 pa ga rfl
    · exact b3 _ _ l1 l2 pa ga rfl
  refine Tm_suc (fun k => by rw [y_X3_assign]) ?_
  refine Tm_oc (c_sizeOM h2) (fun q z => ?_)
  rw [z]
  refine Tm_chk i1 ?_
  refine Tm_oc (c_sizeW p.1.1 (by show Gw g (σ.2.2.1 20 (L.1 1).toNatClampNeg); rw [c1]; exact (st.2.2 j jl).1)) (fun q2 z2 => ?_)
  have e2 : q2.2 = σ := z2.1
  rw [e2]
  exact Tm_yes (om_le z2.2.1 z2.2.2) (b1 _ rfl rfl)
theorem c_clearFor (p : Pre c g l t K K2 K3 K4 B KB f0 u0 σ fs u d r pb nf nc sq) (cs : tcS c u0) {n n2 m : Nat} (hn : n + 1 < bt d r) (sb : SlB r) (hf : tcF c u ≤ n) (h1 : uN (L.1 1) = uN (σ.1 1901) + 4 + n) (ha : AllM (fun i => i < bsl → ¬ i % 500000 = n + 1) r) (h2 : uN (L.1 2) = uN (σ.1 1901) + 4 + n2) (h3 : uN (L.1 3) = m) (hm : n2 + m ≤ bt d r) (ha2 : AllM (fun i => ¬ (n2 ≤ i ∧ i < n2 + m)) r) : Tm (fun k => y_X3_clearFor k 0 L σ) (fun q => ∃ K', Pre c g l t K' K2 K3 K4 B KB f0 u0 q.2 fs u d r pb nf nc sq ∧ Go c u0 σ q.2 ∧ q.2.1 1901 = σ.1 1901) := by
  have st := p.1.2.1.1
  have ts := TyS_sp p.2.1
  have b1 : ∀ (k : Nat) (L' : LV) (τ : CS) (K' : Nat → Option Int32), Pre c g l t K' K2 K3 K4 B KB f0 u0 τ fs u d r pb nf nc sq → Go c u0 σ τ → τ.1 1901 = σ.1 1901 → L'.1 2 = L.1 2 → L'.1 3 = L.1 3 → uN (L'.1 4) + k = uN (σ.1 1901) + 4 + n2 + m → uN (σ.1 1901) + 4 + n2 ≤ uN (L'.1 4) → Tm (fun k => y_X3_clearFor k 1 L' τ) (fun q => ∃ K', Pre c g l t K' K2 K3 K4 B KB f0 u0 q.2 fs u d r pb nf nc sq ∧ Go c u0 σ q.2 ∧ q.2.1 1901 = σ.1 1901) := by
    intro k
    induction k with
    | zero =>
      intro L' τ K' pt gt f1 l2 l3 l4 l5
      refine Tm_suc (fun k => by rw [y_X3_clearFor]) ?_
      refine Tm_yes (by rw [l2, l3, u_le (by rw [u_add (by omega)]; omega) (by omega), u_add (by omega)]; omega) ?_
      refine Tm_suc (fun k => by rw [y_X3_clearFor]) ?_
      exact Tm_some ⟨K', pt, gt, f1⟩
    | succ k ih =>
      intro L' τ K' pt gt f1 l2 l3 l4 l5
      have f1u : uN (τ.1 1901) = uN (σ.1 1901) := by rw [f1]
      refine Tm_suc (fun k => by rw [y_X3_clearFor]) ?_
      refine Tm_no (by rw [l2, l3, u_le (by rw [u_add (by omega)]; omega) (by omega), u_add (by omega)]; omega) ?_
      refine Tm_oc (c_assignOM (j := uN (τ.1 1901) + 4 + (uN (L'.1 4) - (uN (σ.1 1901) + 4))) pt cs (by show uN (L'.1 4) = _; omega) rfl (WP_sl (by omega) sb (AllM_i (fun i hi e => hi (by omega)) r ha2))) (fun q z => ?_)
      obtain ⟨K1, z1, z2, z3⟩ := z
      refine ih _ _ K1 z1 (Go_t gt z2) (z3.trans f1) l2 l3 ?_ ?_
      · show uN (L'.1 4 + 1) + k = _
        rw [u_inc (by omega)]; omega
      · show _ ≤ uN (L'.1 4 + 1)
        rw [u_inc (by omega)]; omega
  refine Tm_suc (fun k => by rw [y_X3_clearFor]) ?_
  refine Tm_oc (c_letGo20 p cs hn sb hf h1 ha) (fun q z => ?_)
  obtain ⟨K1, z1, z2, z3⟩ := z
  exact b1 m _ _ K1 z1 z2 z3 rfl rfl (by show uN (L.1 2) + m = _; omega) (by show _ ≤ uN (L.1 2); omega)
end CTH
