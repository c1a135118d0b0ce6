section JnS576
/-! What view throws and answers, as the law reads it (for p13); what program answers (for p4). -/
theorem hp_viewL {j : Nat} (hj : j < 512) : cPr j (fun x => x = 0 ∨ x = 2 ∨ x = 4) (fun σ k => f_X11_view k 0 lZ σ) (fun τ k => x_view k 0 (fun _ => 0) τ) (fun r q => q.2.1 2 = wv 2 1 2 r.1.1 ∧ (r.1.1 = 0 → r.1.2 = q.1)) := fun σ τ hi => Tm_mono (hp_viewE hj σ τ hi) (fun r z => ⟨z.1, z.2.1, z.2.2.1, Tm_mono z.2.2.2 (fun q w => ⟨w.1, by
  rcases z.1 with e | e | e
  · rw [e]
    exact ⟨(w.2.1.1 e).1, fun _ => (w.2.1.1 e).2⟩
  · rw [e]
    exact ⟨w.2.1.2.1 e, fun y => absurd y (by decide)⟩
  · rw [e]
    exact ⟨w.2.1.2.2 e, fun y => absurd y (by decide)⟩⟩)⟩)
theorem hp_programL {j : Nat} (hj : j < 512) : cPr j (fun x => x = 0) (fun σ k => f_X11_program k 0 lZ σ) (fun τ k => x_program k 0 (fun _ => 0) τ) (fun r q => r.1.2 = q.1) := cPq_R (hp_programE hj)
end JnS576
