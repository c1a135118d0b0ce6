/-! Work is counted (reference). -/
section WRK
variable {g : Nat → Prop} {l : List Nat} {B h t : Nat} {σ : MS}
/-- n more of work: within 60000, or error 11 -/
def WkO (σ : MS) (w n : Nat) (τ : MS) : Prop := (w + n ≤ 60000 ∧ τ = mSc σ 57 (nI (w + n))) ∨ (60000 < w + n ∧ τ = mEr (mSc σ 57 (nI (w + n))) (nI 11))
theorem s_worked {w n : Nat} (h57 : σ.1 57 = nI w) (hw : w + n < 2147483648) {L : Nat → Int32} (hL : L 1 = nI n) : Tm (fun k => x_worked k 0 L σ) (fun r => r.1 = 0 ∧ WkO σ w n r.2) := by
  refine Tm_suc (fun k => by rw [x_worked]) ?_
  rw [h57, hL, n_add hw]
  show Tm (fun k => x_worked k 1 L (mSc σ 57 (nI (w + n)))) _
  have e57 : (mSc σ 57 (nI (w + n))).1 57 = nI (w + n) := rfl
  refine Tm_suc (fun k => by rw [x_worked]) ?_
  rw [e57]
  refine Tm_ite (fun z => ?_) (fun z => ?_)
  · refine Tm_suc (fun k => by rw [x_worked]) ?_
    exact Tm_some ⟨rfl, Or.inl ⟨(n_le (q := 60000) hw (by decide)).mp z, rfl⟩⟩
  · have z : 60000 < w + n := by
      by_cases e : w + n ≤ 60000
      · exact absurd ((n_le (q := 60000) hw (by decide)).mpr e) z
      · omega
    refine Tm_ob (s_fail _ _) (fun r hr => ?_)
    rw [hr]
    refine Tm_suc (fun k => by rw [x_worked]) ?_
    exact Tm_some ⟨rfl, Or.inr ⟨z, rfl⟩⟩
/-- an answer counts by its size -/
theorem s_answer (hS : HS g l B h σ) {v w : Nat} (hv : v < 3 ∨ g v) (h57 : σ.1 57 = nI w) (hw : w ≤ 2000000000) {L : Nat → Int32} (hL : L 1 = nI v) : Tm (fun k => x_answer k 0 L σ) (fun r => r.1 = nI v ∧ ((¬ σ.1 56 = 0 ∧ r.2 = σ) ∨ (σ.1 56 = 0 ∧ WkO σ w (szN (σ.2.2 28) v) r.2))) := by
  have sz := szN_b hS hv
  refine Tm_suc (fun k => by rw [x_answer]) ?_
  refine Tm_ite (fun z => ?_) (fun z => ?_)
  · refine Tm_ob (s_size hS hv (by exact hL)) (fun r hr => ?_)
    rw [hr]
    refine Tm_ob (s_worked h57 (n := szN (σ.2.2 28) v) (by omega) rfl) (fun r hr => ?_)
    refine Tm_suc (fun k => by rw [x_answer]) ?_
    exact Tm_some ⟨hL, Or.inr ⟨z, hr.2⟩⟩
  · refine Tm_suc (fun k => by rw [x_answer]) ?_
    exact Tm_some ⟨hL, Or.inl ⟨z, rfl⟩⟩
theorem WkO_HS {w n : Nat} {τ : MS} (hW : WkO σ w n τ) (hS : HS g l B h σ) : HS g l B h τ := by
  rcases hW with ⟨_, e⟩ | ⟨_, e⟩
  · rw [e]; exact HS_c hS rfl rfl rfl
  · rw [e]; exact HS_er (HS_c hS rfl rfl rfl) _
theorem WkO_E {w n : Nat} {τ : MS} (hW : WkO σ w n τ) (hE : ErB σ) : ErB τ := by
  rcases hW with ⟨_, e⟩ | ⟨_, e⟩
  · rw [e]; exact ErB_c rfl hE
  · rw [e]; exact ErB_er (ErB_c rfl hE) (by decide)
theorem WkO_s {w n j : Nat} {τ : MS} (hW : WkO σ w n τ) (h1 : j ≠ 56) (h2 : j ≠ 57) : τ.1 j = σ.1 j := by
  rcases hW with ⟨_, e⟩ | ⟨_, e⟩
  · rw [e]; exact upd_other h2
  · rw [e, mEr_s h1]; exact upd_other h2
theorem WkO_a {w n : Nat} {τ : MS} (hW : WkO σ w n τ) : τ.2.2 = σ.2.2 := by
  rcases hW with ⟨_, e⟩ | ⟨_, e⟩ <;> rw [e] <;> rfl
theorem WkO_57 {w n : Nat} {τ : MS} (hW : WkO σ w n τ) : τ.1 57 = nI (w + n) := by
  rcases hW with ⟨_, e⟩ | ⟨_, e⟩
  · rw [e]; rfl
  · rw [e, mEr_s (by decide)]; rfl
/-- no error stands behind it: then the work is within its bound -/
theorem WkO_le {w n : Nat} {τ : MS} (hW : WkO σ w n τ) (h : τ.1 56 = 0) : w + n ≤ 60000 ∧ σ.1 56 = 0 := by
  rcases hW with ⟨z, e⟩ | ⟨_, e⟩
  · rw [e] at h; exact ⟨z, h⟩
  · rw [e] at h; exact absurd h (mEr_e (by decide))
end WRK
