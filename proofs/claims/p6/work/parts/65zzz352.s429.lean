/-! The class: its saves emptied, a variable asked for. -/
section CUN
variable {g g' g2 : Nat → Prop} {l l' l2 : List Nat} {t t' t2 : Nat} {σ σ' σ2 τ τ' φ : CS} {L : LV} {x y z i : Int32} {K K' K0 K2 K2' K3 K3' K4 K4' KB : Nat → Option Int32} {c : Ct} {B f0 u0 a T : Nat}
theorem c_global {n : Nat} (h1 : uN (L.1 1) = n) (hn : 4 + n < sN σ 20) (h2 : sN σ 20 ≤ 91000) : Tm (fun k => y_X3_global k 0 L σ) (fun q => q = (σ.2.2.1 20 (4 + n), σ)) := by
  have e4 : uN (4 : Int32) = 4 := rfl
  have ea : uN (4 + L.1 1) = 4 + n := by rw [u_add (by omega), h1, e4]
  refine Tm_suc (fun k => by rw [y_X3_global]) ?_
  refine Tm_chk (u_in (by omega) (by omega)) ?_
  rw [u_cl (by omega), ea]
  exact Tm_some rfl
theorem c_empty : Tm (fun k => y_X9_empty k 0 L σ) (fun q => (∀ j, ¬ (2403 ≤ j ∧ j ≤ 2408) → q.2.1 j = σ.1 j) ∧ q.2.2 = σ.2 ∧ q.2.1 2403 = 0 ∧ q.2.1 2404 = 0 ∧ q.2.1 2405 = 0) := by
  refine Tm_suc (fun k => by rw [y_X9_empty]) ?_
  refine Tm_oc c_drop (fun q e => ?_)
  rw [e]
  refine Tm_suc (fun k => by rw [y_X9_empty]) ?_
  refine Tm_some ⟨fun j hj => ?_, rfl, ?_, ?_, ?_⟩
  · rw [uI_o (by omega), uI_o (by omega), uI_o (by omega), uI_o (by omega), uI_o (by omega), uI_o (by omega)]
  · rw [uI_o (by decide), uI_o (by decide), uI_o (by decide), uI_o (by decide), uI_o (by decide), uI_s]
  · rw [uI_o (by decide), uI_o (by decide), uI_o (by decide), uI_o (by decide), uI_s]
  · rw [uI_o (by decide), uI_o (by decide), uI_o (by decide), uI_s]
end CUN
