/-! The class: slices, parts, rows turned round. -/
section CSA
variable {g g' g2 : Nat → Prop} {l l' l2 : List Nat} {t t' t2 : Nat} {σ σ' σ2 : CS} {L : LV} {x y i : Int32} {M M' : Nat → Int32}
/-- rows have no more than 999 members, and are cells -/
theorem row_c (h : HQ g l t σ) (hx : Gv g x) (k : 5 ≤ kdC (σ.2.2.1 3) x) (k7 : ¬ kdC (σ.2.2.1 3) x = 7) : uN x < 2147483648 ∧ lnC (σ.2.2.1 3) x ≤ 999 := by
  have cx : uN x < 2147483648 := kdC_5 hx k k7
  refine ⟨cx, ?_⟩
  unfold kdC at k
  rw [if_pos cx] at k
  have q := (HQ_c h (Gv_c hx cx).2).2.2.2.2.2.2.2.2.2.1 k
  unfold lnC
  rw [if_pos cx]
  exact q.1
theorem c_slice (h : HQ g l t σ) (hf : Gv g (L.1 1)) (hi : Gv g (L.1 2)) (hj : Gv g (L.1 3)) : Tm (fun k => y_X0_slice k 0 L σ) (Va g t σ) := by
  have ll := lnC_lt (σ.2.2.1 3) (L.1 1)
  refine Tm_suc (fun k => by rw [y_X0_slice]) ?_
  refine Tm_oc (c_rowError h hf hi hj) (fun r1 q1 => ?_)
  obtain ⟨e1, v1, p⟩ := q1
  rw [e1]
  refine Tm_ite (fun c => ?_) (fun c => Tm_some (Va_e h (AXf_r σ) (v1.resolve_left c)))
  obtain ⟨k45, pa, pb, pc⟩ := p c
  have k45' : kdC (σ.2.2.1 3) (L.1 1) = 4 ∨ kdC (σ.2.2.1 3) (L.1 1) = 5 := k45
  have pa' : 1 ≤ uN (clC (σ.2.2.1 3) (L.1 2)) := pa
  have pb' : uN (clC (σ.2.2.1 3) (L.1 2)) ≤ uN (clC (σ.2.2.1 3) (L.1 3)) + 1 := pb
  have pc' : uN (clC (σ.2.2.1 3) (L.1 3)) ≤ lnC (σ.2.2.1 3) (L.1 1) := pc
  have ea : uN (clC (σ.2.2.1 3) (L.1 2) - 1) = uN (clC (σ.2.2.1 3) (L.1 2)) - 1 := by
    rw [u_sub (by show 1 ≤ _; omega)]; rfl
  have eb : uN (clC (σ.2.2.1 3) (L.1 3) - (clC (σ.2.2.1 3) (L.1 2) - 1)) = uN (clC (σ.2.2.1 3) (L.1 3)) - (uN (clC (σ.2.2.1 3) (L.1 2)) - 1) := by
    rw [u_sub (by omega), ea]
  refine Tm_suc (fun k => by rw [y_X0_slice]) ?_
  refine Tm_ocE (c_clampedE h hi) ?_
  refine Tm_ocE (c_clampedE h hj) ?_
  refine Tm_ocE (c_kind h hf) ?_
  refine Tm_ite (fun c4 => ?_) (fun c4 => ?_)
  · have k4 : kdC (σ.2.2.1 3) (L.1 1) = 4 := kd_n (n := 4) (by decide) c4
    refine Tm_oc (cb15 h (AXf_r σ) hf k4 ?_ (by show uN 0 ≤ 8192; decide)) (fun r q => ?_)
    · show uN (clC (σ.2.2.1 3) (L.1 2) - 1) + uN (clC (σ.2.2.1 3) (L.1 3) - (clC (σ.2.2.1 3) (L.1 2) - 1)) ≤ lnC (σ.2.2.1 3) (L.1 1)
      omega
    · refine Tm_oc (mk15 h q.1 rfl (fun _ => ?_)) (fun r z => Tm_some z)
      show uN (clC (σ.2.2.1 3) (L.1 3) - (clC (σ.2.2.1 3) (L.1 2) - 1)) ≤ 8192
      omega
  · have k5 : kdC (σ.2.2.1 3) (L.1 1) = 5 := by
      rcases k45' with z | z
      · exact absurd (by show nI (kdC (σ.2.2.1 3) (L.1 1)) = 4; rw [z]; rfl) c4
      · exact z
    have rc := row_c h hf (by omega) (by omega)
    have sx : Sq5 g σ (L.1 1) := Sq5_k hf (by omega)
    have es : uN (clC (σ.2.2.1 3) (L.1 2) - 1 + (clC (σ.2.2.1 3) (L.1 3) - (clC (σ.2.2.1 3) (L.1 2) - 1))) = uN (clC (σ.2.2.1 3) (L.1 3)) := by
      rw [u_add (by omega), ea, eb]; omega
    refine Tm_suc (fun k => by rw [y_X0_slice]) ?_
    refine Tm_oc (c_load0x h sx (by show uN (clC (σ.2.2.1 3) (L.1 2) - 1) < _; omega) (by show uN (clC (σ.2.2.1 3) (L.1 2) - 1 + (clC (σ.2.2.1 3) (L.1 3) - (clC (σ.2.2.1 3) (L.1 2) - 1))) ≤ lnC (σ.2.2.1 3) (L.1 1); omega) (by show uN 0 ≤ _; decide) (fun j hj => absurd hj (Nat.not_lt_zero j))) (fun r q => ?_)
    obtain ⟨f, f1, f2, f3, f4⟩ := q
    have f5 := f4 rc.1 (by show uN (clC (σ.2.2.1 3) (L.1 2) - 1) ≤ uN (clC (σ.2.2.1 3) (L.1 2) - 1 + (clC (σ.2.2.1 3) (L.1 3) - (clC (σ.2.2.1 3) (L.1 2) - 1))); omega) (by
      show uN (clC (σ.2.2.1 3) (L.1 2) - 1 + (clC (σ.2.2.1 3) (L.1 3) - (clC (σ.2.2.1 3) (L.1 2) - 1))) - uN (clC (σ.2.2.1 3) (L.1 2) - 1) ≤ 2048 - 0
      omega)
    have f6 : uN r.1 = 0 + (uN (clC (σ.2.2.1 3) (L.1 2) - 1 + (clC (σ.2.2.1 3) (L.1 3) - (clC (σ.2.2.1 3) (L.1 2) - 1))) - uN (clC (σ.2.2.1 3) (L.1 2) - 1)) := f5
    rw [f1]
    refine Tm_oc (mt16 h (AXf_F σ (k := 16) (by decide) f) rfl ?_ ?_) (fun r z => Tm_some z)
    · show uN (clC (σ.2.2.1 3) (L.1 3) - (clC (σ.2.2.1 3) (L.1 2) - 1)) ≤ 2048
      omega
    · show ∀ j, j < uN (clC (σ.2.2.1 3) (L.1 3) - (clC (σ.2.2.1 3) (L.1 2) - 1)) → Gv g (f j)
      intro j hj
      exact f3 j (by omega)
theorem c_part (h : HQ g l t σ) (hf : Gv g (L.1 2)) (hx : Gv g (L.1 3)) (hy : Gv g (L.1 4)) : Tm (fun k => y_X0_part k 0 L σ) (Va g t σ) := by
  have b5 : ∀ (L' : LV) (σ' : CS), Va g t σ (L'.1 100, σ') → Tm (fun k => y_X0_part k 5 L' σ') (Va g t σ) := by
    intro L' σ' d
    refine Tm_suc (fun k => by rw [y_X0_part]) ?_
    exact Tm_some d
  refine Tm_suc (fun k => by rw [y_X0_part]) ?_
  refine Tm_ite (fun _ => ?_) (fun _ => Tm_ite (fun _ => ?_) (fun _ => ?_))
  · refine Tm_suc (fun k => by rw [y_X0_part]) ?_
    refine Tm_oc (c_memberAt h hf hx) (fun r q => ?_)
    have e : r.2 = σ := q.1
    rw [e]
    exact Tm_some (q.2.elim (fun z => Va_g h (AXf_r σ) z) (fun z => Va_e h (AXf_r σ) z))
  · refine Tm_suc (fun k => by rw [y_X0_part]) ?_
    exact Tm_oc (c_slice h hf hx hy) (fun r q => Tm_some q)
  · refine Tm_suc (fun k => by rw [y_X0_part]) ?_
    refine Tm_oc (c_isMap h hf) (fun r q => ?_)
    have e : r.2 = σ := q.1.1
    rw [e]
    refine Tm_ite (fun _ => ?_) (fun c => ?_)
    · refine Tm_suc (fun k => by rw [y_X0_part]) ?_
      exact b5 _ _ (Va_e h (AXf_r σ) eKind)
    · exact Tm_oc (c_images h ⟨hf, q.2 c⟩ hx) (fun r z => b5 _ _ z)
theorem c_reversed (h : HQ g l t σ) (hx : Gv g (L.1 1)) (hk : L.1 2 = nI (kdC (σ.2.2.1 3) (L.1 1))) (k45 : kdC (σ.2.2.1 3) (L.1 1) = 4 ∨ kdC (σ.2.2.1 3) (L.1 1) = 5) : Tm (fun k => y_X0_reversed k 0 L σ) (Va g t σ) := by
  have la := lnC_lt (σ.2.2.1 3) (L.1 1)
  have ea : uN (nI (lnC (σ.2.2.1 3) (L.1 1))) = lnC (σ.2.2.1 3) (L.1 1) := u_n (by omega)
  have b2 : kdC (σ.2.2.1 3) (L.1 1) = 4 → ∀ (m : Nat) (L' : LV) (σ' : CS), AXf σ σ' → L'.1 1 = L.1 1 → L'.1 3 = nI (lnC (σ.2.2.1 3) (L.1 1)) → uN (L'.1 4) + m = lnC (σ.2.2.1 3) (L.1 1) → Tm (fun k => y_X0_reversed k 2 L' σ') (Va g t σ) := by
    intro k4
    have b4 : ∀ (L' : LV) (σ' : CS), AXf σ σ' → L'.1 3 = nI (lnC (σ.2.2.1 3) (L.1 1)) → Tm (fun k => y_X0_reversed k 4 L' σ') (Va g t σ) := by
      intro L' σ' w a3
      refine Tm_suc (fun k => by rw [y_X0_reversed]) ?_
      refine Tm_oc (mk15 h w rfl (fun _ => ?_)) (fun r z => Tm_some z)
      show uN (L'.1 3) ≤ 8192
      rw [a3]; omega
    intro m
    induction m with
    | zero =>
      intro L' σ' w a1 a3 a4
      refine Tm_suc (fun k => by rw [y_X0_reversed]) ?_
      exact Tm_yes (by rw [a3, u_le (by omega) (by omega)]; omega) (b4 _ _ w a3)
    | succ m ih =>
      intro L' σ' w a1 a3 a4
      have r3 : σ'.2.2.1 3 = σ.2.2.1 3 := w.2.2.1 3 (by decide)
      have e1 : uN (L'.1 3 - 1) = lnC (σ.2.2.1 3) (L.1 1) - 1 := by
        rw [a3, u_sub (by rw [ea]; show 1 ≤ _; omega), ea]; rfl
      have e2 : uN (L'.1 3 - 1 - L'.1 4) = lnC (σ.2.2.1 3) (L.1 1) - 1 - uN (L'.1 4) := by rw [u_sub (by omega), e1]
      refine Tm_suc (fun k => by rw [y_X0_reversed]) ?_
      refine Tm_ite (fun _ => b4 _ _ w a3) (fun _ => Tm_ite (fun _ => b4 _ _ w a3) (fun _ => ?_))
      refine Tm_oc (c_byteAt (HQ_X h w) (by show Gv g (L'.1 1); rw [a1]; exact hx) (fun _ => ?_)) (fun r q => ?_)
      · show kdC (σ'.2.2.1 3) (L'.1 1) = 4 ∧ uN (L'.1 3 - 1 - L'.1 4) < lnC (σ'.2.2.1 3) (L'.1 1)
        rw [r3, a1]
        exact ⟨k4, by omega⟩
      · have e : r.2 = σ' := q.1
        rw [e]
        refine Tm_chk (u_in (by omega) (by decide)) ?_
        refine ih _ _ (AXf_t w (AXf_A _ (by decide) _ _)) ?_ ?_ ?_
        · exact a1
        · exact a3
        · show uN (L'.1 4 + 1) + m = _
          rw [u_inc (by omega)]; omega
  have b3 : kdC (σ.2.2.1 3) (L.1 1) = 5 → ∀ (m : Nat) (L' : LV) (σ' : CS), AXf σ σ' → L'.1 1 = L.1 1 → L'.1 3 = nI (lnC (σ.2.2.1 3) (L.1 1)) → uN (L'.1 4) + m = lnC (σ.2.2.1 3) (L.1 1) → (∀ j, j < uN (L'.1 4) → Gv g (σ'.2.2.1 16 j)) → Tm (fun k => y_X0_reversed k 3 L' σ') (Va g t σ) := by
    intro k5
    have rc := row_c h hx (by omega) (by omega)
    intro m
    induction m with
    | zero =>
      intro L' σ' w a1 a3 a4 hr
      refine Tm_suc (fun k => by rw [y_X0_reversed]) ?_
      refine Tm_yes (by rw [a3, u_le (by omega) (by omega)]; omega) ?_
      refine Tm_suc (fun k => by rw [y_X0_reversed]) ?_
      refine Tm_oc (mt16 h w rfl ?_ ?_) (fun r z => Tm_some z)
      · show uN (L'.1 3) ≤ 2048
        rw [a3]; omega
      · show ∀ j, j < uN (L'.1 3) → Gv g (σ'.2.2.1 16 j)
        intro j hj
        rw [a3, ea] at hj
        exact hr j (by omega)
    | succ m ih =>
      intro L' σ' w a1 a3 a4 hr
      have sx' : Sq5 g σ' (L'.1 1) := Sq5_X w (by rw [a1]; exact Sq5_k hx (by omega))
      refine Tm_suc (fun k => by rw [y_X0_reversed]) ?_
      refine Tm_ite (fun c => absurd c (by rw [a3, u_le (by omega) (by omega)]; omega)) (fun _ => ?_)
      refine Tm_ite (fun c => absurd c (by rw [u_le (by decide) (by omega)]; show ¬ 2048 ≤ _; omega)) (fun _ => ?_)
      refine Tm_ocE (c_member (HQ_X h w) sx'.1 sx'.2) ?_
      refine Tm_chk (u_in (by omega) (by decide)) ?_
      have e4 : uN (L'.1 4 + 1) = uN (L'.1 4) + 1 := u_inc (by omega)
      refine ih _ _ (AXf_t w (AXf_A _ (by decide) _ _)) ?_ ?_ ?_ ?_
      · exact a1
      · exact a3
      · show uN (L'.1 4 + 1) + m = _; omega
      · show ∀ j, j < uN (L'.1 4 + 1) → Gv g ((uA σ' 16 (L'.1 4).toNatClampNeg (mbC (σ'.2.2.1 3) (L'.1 1) (L'.1 3 - 1 - L'.1 4))).2.2.1 16 j)
        rw [e4, u_cl (by omega)]
        exact r16_p hr (mbC_g (HQ_X h w) sx'.1 sx'.2)
  refine Tm_suc (fun k => by rw [y_X0_reversed]) ?_
  refine Tm_ocE (c_length h hx) ?_
  refine Tm_ite (fun c => ?_) (fun c => ?_)
  · rw [hk] at c
    refine b2 (kd_n (n := 4) (by decide) c) (lnC (σ.2.2.1 3) (L.1 1)) _ _ (AXf_r σ) ?_ ?_ ?_
    · rfl
    · rfl
    · show 0 + _ = _; omega
  · have k5 : kdC (σ.2.2.1 3) (L.1 1) = 5 := k45.resolve_left (fun z => c (by rw [hk, z]; rfl))
    refine Tm_suc (fun k => by rw [y_X0_reversed]) ?_
    refine b3 k5 (lnC (σ.2.2.1 3) (L.1 1)) _ _ (AXf_r σ) ?_ ?_ ?_ ?_
    · rfl
    · rfl
    · show 0 + _ = _; omega
    · intro j hj; exact absurd hj (Nat.not_lt_zero j)
end CSA
