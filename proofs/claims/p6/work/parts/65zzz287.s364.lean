/-! The class: the larger, small steps, slices written. -/
section CSB
variable {g g' g2 : Nat → Prop} {l l' l2 : List Nat} {t t' t2 : Nat} {σ σ' σ2 : CS} {L : LV} {x y i : Int32} {M M' : Nat → Int32}
theorem c_larger (h : HQ g l t σ) (hx : Gv g (L.1 1)) (hy : Gv g (L.1 2)) : Tm (fun k => y_X0_larger k 0 L σ) (Qv g σ) := by
  have b5 : ∀ L' : LV, Gv g (L'.1 100) → Tm (fun k => y_X0_larger k 5 L' σ) (Qv g σ) := by
    intro L' d
    refine Tm_suc (fun k => by rw [y_X0_larger]) ?_
    exact Tm_some ⟨rfl, Or.inl d⟩
  have b3 : ∀ L' : LV, L'.1 1 = L.1 1 → L'.1 2 = L.1 2 → Tm (fun k => y_X0_larger k 3 L' σ) (Qv g σ) := by
    intro L' a1 a2
    refine Tm_suc (fun k => by rw [y_X0_larger]) ?_
    refine Tm_ite (fun _ => ?_) (fun _ => ?_)
    · refine b5 _ ?_
      show Gv g (L'.1 1); rw [a1]; exact hx
    · refine Tm_suc (fun k => by rw [y_X0_larger]) ?_
      refine b5 _ ?_
      show Gv g (L'.1 2); rw [a2]; exact hy
  refine Tm_suc (fun k => by rw [y_X0_larger]) ?_
  refine Tm_oc (c_compared h hx hy) (fun r q => ?_)
  have e : r.2 = σ := q.1
  rw [e]
  refine Tm_oc c_isError (fun r2 q2 => ?_)
  have e2 : r2.2 = σ := q2.1.1
  rw [e2]
  refine Tm_ite (fun _ => ?_) (fun _ => Tm_some ⟨rfl, q.2⟩)
  refine Tm_suc (fun k => by rw [y_X0_larger]) ?_
  refine Tm_ite (fun _ => b3 _ rfl rfl) (fun _ => ?_)
  refine Tm_suc (fun k => by rw [y_X0_larger]) ?_
  exact b3 _ rfl rfl
theorem c_smallSteps (g : Nat → Prop) : Tm (fun k => y_X0_smallSteps k 0 L σ) (fun r => AXf σ r.2 ∧ uN r.1 ≤ 1001 ∧ ∀ j, j < uN r.1 → Gv g (r.2.2.2.1 16 j)) := by
  have b2 : ∀ (L' : LV) (σ' : CS), AXf σ σ' → uN (L'.1 4) ≤ 1001 → (∀ j, j < uN (L'.1 4) → Gv g (σ'.2.2.1 16 j)) → Tm (fun k => y_X0_smallSteps k 2 L' σ') (fun r => AXf σ r.2 ∧ uN r.1 ≤ 1001 ∧ ∀ j, j < uN r.1 → Gv g (r.2.2.2.1 16 j)) := by
    intro L' σ' w a b
    refine Tm_suc (fun k => by rw [y_X0_smallSteps]) ?_
    exact Tm_some ⟨w, a, b⟩
  have b1 : ∀ (m : Nat) (L' : LV) (σ' : CS), AXf σ σ' → uN (L'.1 6) + m = 1001 → L'.1 4 = L'.1 6 → (∀ j, j < uN (L'.1 4) → Gv g (σ'.2.2.1 16 j)) → Tm (fun k => y_X0_smallSteps k 1 L' σ') (fun r => AXf σ r.2 ∧ uN r.1 ≤ 1001 ∧ ∀ j, j < uN r.1 → Gv g (r.2.2.2.1 16 j)) := by
    intro m
    induction m with
    | zero =>
      intro L' σ' w a6 a4 hr
      refine Tm_suc (fun k => by rw [y_X0_smallSteps]) ?_
      exact Tm_yes (by rw [u_ltn (by decide) (by omega)]; show 1000 < _; omega) (b2 _ _ w (by rw [a4]; omega) hr)
    | succ m ih =>
      intro L' σ' w a6 a4 hr
      have u4 : uN (L'.1 4) = uN (L'.1 6) := by rw [a4]
      have b4 : Tm (fun k => y_X0_smallSteps k 4 L' σ') (fun r => AXf σ r.2 ∧ uN r.1 ≤ 1001 ∧ ∀ j, j < uN r.1 → Gv g (r.2.2.2.1 16 j)) := by
        refine Tm_suc (fun k => by rw [y_X0_smallSteps]) ?_
        refine Tm_oc c_small (fun r q => ?_)
        have e : r.2 = σ' := q.1
        rw [e]
        refine Tm_chk (u_in (by omega) (by decide)) ?_
        have e4 : uN (L'.1 4 + 1) = uN (L'.1 4) + 1 := u_inc (by omega)
        refine ih _ _ (AXf_t w (AXf_A _ (by decide) _ _)) ?_ ?_ ?_
        · show uN (L'.1 6 + 1) + m = _
          rw [u_inc (by omega)]; omega
        · show L'.1 4 + 1 = L'.1 6 + 1
          rw [a4]
        · show ∀ j, j < uN (L'.1 4 + 1) → Gv g ((uA σ' 16 (L'.1 4).toNatClampNeg r.1).2.2.1 16 j)
          rw [e4, u_cl (by omega)]
          exact r16_p hr (W2_i (g := g) σ q.2.1 q.2.2).1
      refine Tm_suc (fun k => by rw [y_X0_smallSteps]) ?_
      refine Tm_ite (fun _ => b2 _ _ w (by omega) hr) (fun _ => Tm_ite (fun _ => b2 _ _ w (by omega) hr) (fun _ => Tm_ite (fun _ => ?_) (fun _ => Tm_ite (fun _ => b2 _ _ w (by omega) hr) (fun _ => b4))))
      refine Tm_suc (fun k => by rw [y_X0_smallSteps]) ?_
      exact Tm_ite (fun _ => b2 _ _ w (by omega) hr) (fun _ => b4)
  refine Tm_suc (fun k => by rw [y_X0_smallSteps]) ?_
  refine b1 1001 _ _ (AXf_r σ) ?_ ?_ ?_
  · rfl
  · rfl
  · intro j hj; exact absurd hj (Nat.not_lt_zero j)
theorem c_withSlice (h : HQ g l t σ) (hf : Gv g (L.1 1)) (hi : Gv g (L.1 2)) (hj : Gv g (L.1 3)) (hv : Gv g (L.1 4)) : Tm (fun k => y_X0_withSlice k 0 L σ) (Va g t σ) := by
  have ll := lnC_lt (σ.2.2.1 3) (L.1 1)
  have lv := lnC_lt (σ.2.2.1 3) (L.1 4)
  have ef : uN (nI (lnC (σ.2.2.1 3) (L.1 1))) = lnC (σ.2.2.1 3) (L.1 1) := u_n (by omega)
  have ev : uN (nI (lnC (σ.2.2.1 3) (L.1 4))) = lnC (σ.2.2.1 3) (L.1 4) := u_n (by omega)
  have kf := kdC_lt (σ.2.2.1 3) (L.1 1)
  have kv := kdC_lt (σ.2.2.1 3) (L.1 4)
  refine Tm_suc (fun k => by rw [y_X0_withSlice]) ?_
  refine Tm_ocE (c_kind h hv) ?_
  refine Tm_ocE (c_kind h hf) ?_
  refine Tm_ite (fun ck => ?_) (fun _ => ?_)
  · have ck' : nI (kdC (σ.2.2.1 3) (L.1 4)) = nI (kdC (σ.2.2.1 3) (L.1 1)) := ck
    rw [u_eq, u_n (by omega), u_n (by omega)] at ck'
    refine Tm_oc (c_rowError h hf hi hj) (fun r1 q1 => ?_)
    obtain ⟨e1, v1, p⟩ := q1
    rw [e1]
    refine Tm_suc (fun k => by rw [y_X0_withSlice]) ?_
    refine Tm_ite (fun c => ?_) (fun c => Tm_some (Va_e h (AXf_r σ) (v1.resolve_left c)))
    obtain ⟨k45, pa, pb, pc⟩ := p c
    have k45' : kdC (σ.2.2.1 3) (L.1 1) = 4 ∨ kdC (σ.2.2.1 3) (L.1 1) = 5 := k45
    have pa' : 1 ≤ uN (clC (σ.2.2.1 3) (L.1 2)) := pa
    have pb' : uN (clC (σ.2.2.1 3) (L.1 2)) ≤ uN (clC (σ.2.2.1 3) (L.1 3)) + 1 := pb
    have pc' : uN (clC (σ.2.2.1 3) (L.1 3)) ≤ lnC (σ.2.2.1 3) (L.1 1) := pc
    have ea : uN (clC (σ.2.2.1 3) (L.1 2) - 1) = uN (clC (σ.2.2.1 3) (L.1 2)) - 1 := by
      rw [u_sub (by show 1 ≤ _; omega)]; rfl
    have eb : uN (nI (lnC (σ.2.2.1 3) (L.1 1)) - clC (σ.2.2.1 3) (L.1 3)) = lnC (σ.2.2.1 3) (L.1 1) - uN (clC (σ.2.2.1 3) (L.1 3)) := by
      rw [u_sub (by omega), ef]
    refine Tm_suc (fun k => by rw [y_X0_withSlice]) ?_
    refine Tm_ocE (c_clampedE h hi) ?_
    refine Tm_ocE (c_clampedE h hj) ?_
    refine Tm_ocE (c_length h hf) ?_
    refine Tm_ocE (c_kind h hf) ?_
    refine Tm_ite (fun c4 => ?_) (fun c4 => ?_)
    · have k4 : kdC (σ.2.2.1 3) (L.1 1) = 4 := kd_n (n := 4) (by decide) c4
      refine Tm_oc (cb15 h (AXf_r σ) hf k4 ?_ (by show uN 0 ≤ 8192; decide)) (fun r6 q6 => ?_)
      · show 0 + uN (clC (σ.2.2.1 3) (L.1 2) - 1) ≤ lnC (σ.2.2.1 3) (L.1 1)
        omega
      have u6 : uN r6.1 = 0 + uN (clC (σ.2.2.1 3) (L.1 2) - 1) := q6.2
      have r3 : r6.2.2.2.1 3 = σ.2.2.1 3 := q6.1.2.2.1 3 (by decide)
      refine Tm_ocE (c_length (HQ_X h q6.1) hv) ?_
      rw [r3]
      refine Tm_oc (cb15 h q6.1 hv (by show kdC (σ.2.2.1 3) (L.1 4) = 4; omega) ?_ (by show uN r6.1 ≤ 8192; omega)) (fun r8 q8 => ?_)
      · show 0 + uN (nI (lnC (σ.2.2.1 3) (L.1 4))) ≤ lnC (σ.2.2.1 3) (L.1 4)
        omega
      have u8 : uN r8.1 = uN r6.1 + uN (nI (lnC (σ.2.2.1 3) (L.1 4))) := q8.2
      refine Tm_oc (cb15 h q8.1 hf k4 ?_ (by show uN r8.1 ≤ 8192; omega)) (fun r9 q9 => ?_)
      · show uN (clC (σ.2.2.1 3) (L.1 3)) + uN (nI (lnC (σ.2.2.1 3) (L.1 1)) - clC (σ.2.2.1 3) (L.1 3)) ≤ lnC (σ.2.2.1 3) (L.1 1)
        omega
      have u9 : uN r9.1 = uN r8.1 + uN (nI (lnC (σ.2.2.1 3) (L.1 1)) - clC (σ.2.2.1 3) (L.1 3)) := q9.2
      refine Tm_oc (mk15 h q9.1 rfl (fun _ => ?_)) (fun r z => Tm_some z)
      show uN r9.1 ≤ 8192
      omega
    · have k5 : kdC (σ.2.2.1 3) (L.1 1) = 5 := by
        rcases k45' with z | z
        · exact absurd (by show nI (kdC (σ.2.2.1 3) (L.1 1)) = 4; rw [z]; rfl) c4
        · exact z
      have sf : Sq5 g σ (L.1 1) := Sq5_k hf (by omega)
      have sv : Sq5 g σ (L.1 4) := Sq5_k hv (by omega)
      refine Tm_suc (fun k => by rw [y_X0_withSlice]) ?_
      refine Tm_oc (c_load0 h sf (by show uN 0 < _; decide) (by show uN (clC (σ.2.2.1 3) (L.1 2) - 1) ≤ lnC (σ.2.2.1 3) (L.1 1); omega) (by show uN 0 ≤ _; decide) (fun j hj => absurd hj (Nat.not_lt_zero j))) (fun r q => ?_)
      obtain ⟨f, f1, f2, f3⟩ := q
      rw [f1]
      have w := AXf_F σ (k := 16) (by decide) f
      refine Tm_ocE (c_length (HQ_X h w) hv) ?_
      refine Tm_oc (c_load0 (HQ_X h w) (Sq5_X w sv) (by show uN 0 < _; decide) (by show uN (nI (lnC (σ.2.2.1 3) (L.1 4))) ≤ lnC (σ.2.2.1 3) (L.1 4); omega) f2 f3) (fun r2 q2 => ?_)
      obtain ⟨f', g1, g2, g3⟩ := q2
      rw [g1]
      have w2 := AXf_t w (AXf_F (uF σ 16 f) (k := 16) (by decide) f')
      refine Tm_oc (c_load0 (HQ_X h w2) (Sq5_X w2 sf) (by show uN (clC (σ.2.2.1 3) (L.1 3)) < _; omega) (by show uN (nI (lnC (σ.2.2.1 3) (L.1 1))) ≤ lnC (σ.2.2.1 3) (L.1 1); omega) g2 g3) (fun r3 q3 => ?_)
      obtain ⟨f'', k1, k2, k3⟩ := q3
      rw [k1]
      exact Tm_oc (mt16 h (AXf_t w2 (AXf_F _ (k := 16) (by decide) f'')) rfl k2 k3) (fun r z => Tm_some z)
  · refine Tm_suc (fun k => by rw [y_X0_withSlice]) ?_
    refine Tm_suc (fun k => by rw [y_X0_withSlice]) ?_
    refine Tm_no (by show ¬ (-268435455 : Int32) = 0; decide) ?_
    exact Tm_some (Va_e h (AXf_r σ) eKind)
end CSB
