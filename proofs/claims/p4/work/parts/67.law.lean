/-! The law holds: p4. -/
theorem law_ok : lawOK := by
  refine lawOK_of IB PhC PhS ib_0 (by rw [ph_0.1]; omega) (by rw [ph_0.2]; omega) (fun j hj a1 a2 a3 a4 a5 => hp_feed hj a1 a2 a3 a4 a5) (fun j hj a1 => hp_end hj a1) (fun j hj => hp_programL hj) (fun j hj => hp_fault hj) (fun j hj a1 a2 => cPr_T (hp_start hj a1 a2)) (fun j hj a1 => hp_step hj a1) (fun j hj a1 => hp_back hj a1) (fun j hj a1 => hp_state hj a1) (fun j hj a1 => hp_out hj a1) (fun j hj => hp_value hj) (fun j hj => hp_work hj) (fun j hj => hp_view hj) (fun j hj => hp_round hj) (fun j hj a1 a2 => hp_seen hj a1 a2) (fun j hj a1 => hp_shown hj a1) (fun j hj a1 => hp_shape hj a1) (fun j hj => hp_order hj) (fun j hj a1 => hp_count hj a1) (fun j hj σ τ h => hp_none hj h)
theorem i_vc : Claimed_1_1 ∧ Claimed_1_2 := i_vc_of law_ok
