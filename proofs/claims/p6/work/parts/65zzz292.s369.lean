/-! The class: parts written. -/
section CSG
variable {g : Nat → Prop} {l : List Nat} {t : Nat} {σ : CS} {L : LV}
theorem c_written (h : HQ g l t σ) (hf : Gv g (L.1 2)) (hx : Gv g (L.1 3)) (hy : Gv g (L.1 4)) (hv : Gv g (L.1 5)) : Tm (fun k => y_X0_written k 0 L σ) (Va g t σ) := by
  have b5 : ∀ (L' : LV) (σ' : CS), Va g t σ (L'.1 100, σ') → Tm (fun k => y_X0_written k 5 L' σ') (Va g t σ) := by
    intro L' σ' d
    refine Tm_suc (fun k => by rw [y_X0_written]) ?_
    exact Tm_some d
  have b7 : ∀ (L' : LV) (σ' : CS), Va g t σ (L'.1 100, σ') → Tm (fun k => y_X0_written k 7 L' σ') (Va g t σ) := by
    intro L' σ' d
    refine Tm_suc (fun k => by rw [y_X0_written]) ?_
    exact Tm_some d
  have b6 : ∀ (L' : LV), Tm (fun k => y_X0_written k 6 L' σ) (Va g t σ) := by
    intro L'
    refine Tm_suc (fun k => by rw [y_X0_written]) ?_
    exact b7 _ _ (Va_e h (AXf_r σ) eKind)
  refine Tm_suc (fun k => by rw [y_X0_written]) ?_
  refine Tm_ite (fun _ => ?_) (fun _ => Tm_ite (fun _ => ?_) (fun _ => ?_))
  · refine Tm_suc (fun k => by rw [y_X0_written]) ?_
    refine Tm_oc (c_isMap h hf) (fun r q => ?_)
    have e : r.2 = σ := q.1.1
    rw [e]
    refine Tm_ite (fun _ => ?_) (fun c => ?_)
    · refine Tm_suc (fun k => by rw [y_X0_written]) ?_
      exact Tm_oc (c_withMember h hf hx hv) (fun r z => b5 _ _ z)
    · exact Tm_oc (c_withPair h ⟨hf, q.2 c⟩ hx hv) (fun r z => b5 _ _ z)
  · refine Tm_suc (fun k => by rw [y_X0_written]) ?_
    exact Tm_oc (c_withSlice h hf hx hy hv) (fun r z => Tm_some z)
  · refine Tm_suc (fun k => by rw [y_X0_written]) ?_
    refine Tm_oc (c_isMap h hf) (fun r q => ?_)
    have e : r.2 = σ := q.1.1
    rw [e]
    refine Tm_ite (fun _ => b6 _) (fun c => ?_)
    refine Tm_ocE (c_kind h hv) ?_
    refine Tm_ite (fun d => ?_) (fun _ => b6 _)
    have k6 : kdC (σ.2.2.1 3) (L.1 5) = 6 := kd_n (n := 6) (by decide) d
    exact Tm_oc (c_withImages h ⟨hf, q.2 c⟩ hx (Sq5_k hv (by show 5 ≤ kdC (σ.2.2.1 3) (L.1 5); omega))) (fun r z => b7 _ _ z)
end CSG
