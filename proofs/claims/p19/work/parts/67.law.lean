/-! The law holds: p19. -/
theorem law_ok : lawOK := by
  refine lawOK_of IN PhC PhS iN_0 (by rw [ph_0.1]; omega) (by rw [ph_0.2]; omega) (fun j hj a1 a2 a3 a4 a5 => hN_feed hj a1 a2 a3 a4 a5) (fun j hj a1 => hN_end hj a1) (fun j hj => hN_program hj) (fun j hj => hN_fault hj) (fun j hj a1 a2 => hN_start hj a1 a2) (fun j hj a1 => hN_step hj a1) (fun j hj a1 => hN_back hj a1) (fun j hj a1 => hN_state hj a1) (fun j hj a1 => hN_out hj a1) (fun j hj => hN_value hj) (fun j hj => hN_work hj) (fun j hj => hN_view hj) (fun j hj => hN_round hj) (fun j hj a1 a2 => hN_seen hj a1 a2) (fun j hj a1 => hN_shown hj a1) (fun j hj a1 => hN_shape hj a1) (fun j hj => hN_order hj) (fun j hj a1 => hN_count hj a1) (fun j hj σ τ h => hN_none hj h)
theorem i_vc : Claimed_1_1 ∧ Claimed_1_2 := i_vc_of law_ok
