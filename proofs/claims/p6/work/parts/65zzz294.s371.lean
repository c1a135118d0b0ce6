/-! The class: progressions. -/
section CSI
variable {g g' g2 : Nat → Prop} {l l' l2 : List Nat} {t t' t2 : Nat} {σ σ' σ2 : CS} {L : LV} {x y i : Int32} {M M' : Nat → Int32}
theorem W2_ga (h : HQ g l t σ) (a : Ga g t σ g' l' t' σ') (q : W2 g σ x) : W2 g' σ' x := ⟨Gv_sg q.1 a.2.1, by rw [kdC_ga h a q.1]; exact q.2⟩
/-- a whole or an error -/
def WR (g : Nat → Prop) (σ : CS) (x : Int32) : Prop := W2 g σ x ∨ Rw x
theorem WR_ga (h : HQ g l t σ) (a : Ga g t σ g' l' t' σ') (q : WR g σ x) : WR g' σ' x := q.imp (W2_ga h a) id
theorem WR_g (q : WR g σ x) : Gv g x := q.elim (fun z => z.1) (fun z => Gv_rw z)
theorem u_div2 {x : Int32} (h : uN x < 2147483648) : uN (x / 2) = uN x / 2 := by
  have e := u_of x
  rw [show x / 2 = nI (uN x / 2) from by
    conv => lhs; rw [e]
    exact n_div (q := 2) h (by decide) (by decide)]
  rw [u_n (by omega)]
theorem pgr_19 (h : HQ g l t σ) (h8 : uN (L.1 8) ≤ 1001) (hr : ∀ j, j < uN (L.1 8) → Gv g (σ.2.2.1 16 j)) : Tm (fun k => y_X0_progression k 19 L σ) (Va g t σ) := by
  refine Tm_suc (fun k => by rw [y_X0_progression]) ?_
  exact Tm_oc (mk16 (n := 0) h (AXf_r σ) (Or.inr rfl) rfl rfl (by show uN (L.1 8) ≤ 2048; omega) hr) (fun r z => Tm_some z)
theorem pgr_18 (h : HQ g l t σ) : ∀ (m : Nat) (L' : LV) (σ' : CS), AXf σ σ' → uN (L'.1 8) ≤ 1001 → uN (L'.1 10) + m = uN (L'.1 8) / 2 → (∀ j, j < uN (L'.1 8) → Gv g (σ'.2.2.1 16 j)) → Tm (fun k => y_X0_progression k 18 L' σ') (Va g t σ) := by
  intro m
  induction m with
  | zero =>
    intro L' σ' w a8 a hr
    have q := u_div2 (x := L'.1 8) (by omega)
    have e19 : Tm (fun k => y_X0_progression k 19 L' σ') (Va g t σ) := Tm_mono (pgr_19 (HQ_X h w) a8 hr) (fun r z => Va_t (Ga_X h w) z)
    refine Tm_suc (fun k => by rw [y_X0_progression]) ?_
    refine Tm_ite (fun _ => e19) (fun _ => ?_)
    refine Tm_no (by decide) ?_
    exact Tm_yes (by rw [u_le (by omega) (by omega)]; omega) e19
  | succ m ih =>
    intro L' σ' w a8 a hr
    have q := u_div2 (x := L'.1 8) (by omega)
    have e19 : Tm (fun k => y_X0_progression k 19 L' σ') (Va g t σ) := Tm_mono (pgr_19 (HQ_X h w) a8 hr) (fun r z => Va_t (Ga_X h w) z)
    have u1 : uN (1 : Int32) = 1 := rfl
    have s1 : uN (L'.1 8 - 1) = uN (L'.1 8) - 1 := by rw [u_sub (by omega)]; omega
    have s2 : uN (L'.1 8 - 1 - L'.1 10) = uN (L'.1 8) - 1 - uN (L'.1 10) := by rw [u_sub (by omega), s1]
    have i1 : ¬ (L'.1 10 < 0 ∨ 2048 ≤ (L'.1 10).toNatClampNeg) := u_in (by omega) (by decide)
    have i2 : ¬ (L'.1 8 - 1 - L'.1 10 < 0 ∨ 2048 ≤ (L'.1 8 - 1 - L'.1 10).toNatClampNeg) := u_in (by omega) (by decide)
    refine Tm_suc (fun k => by rw [y_X0_progression]) ?_
    refine Tm_ite (fun _ => e19) (fun _ => ?_)
    refine Tm_no (by decide) ?_
    refine Tm_no (by rw [u_le (by omega) (by omega)]; omega) ?_
    refine Tm_chk i1 (Tm_chk i2 (Tm_chk i1 (Tm_chk i2 ?_)))
    refine ih _ _ (AXf_t w (AXf_t (AXf_A _ (by decide) _ _) (AXf_A _ (by decide) _ _))) ?_ ?_ ?_
    · exact a8
    · show uN (L'.1 10 + 1) + m = uN (L'.1 8) / 2
      rw [u_inc (by omega)]; omega
    · show ∀ j, j < uN (L'.1 8) → Gv g ((uA (uA σ' 16 (L'.1 10).toNatClampNeg (σ'.2.2.1 16 (L'.1 8 - 1 - L'.1 10).toNatClampNeg)) 16 (L'.1 8 - 1 - L'.1 10).toNatClampNeg (σ'.2.2.1 16 (L'.1 10).toNatClampNeg)).2.2.1 16 j)
      intro j hj
      show Gv g (upd (upd (σ'.2.2.1 16) (L'.1 10).toNatClampNeg (σ'.2.2.1 16 (L'.1 8 - 1 - L'.1 10).toNatClampNeg)) (L'.1 8 - 1 - L'.1 10).toNatClampNeg (σ'.2.2.1 16 (L'.1 10).toNatClampNeg) j)
      rw [u_cl (x := L'.1 10) (by omega), u_cl (x := L'.1 8 - 1 - L'.1 10) (by omega)]
      by_cases c : j = uN (L'.1 8 - 1 - L'.1 10)
      · rw [c, upd_same]
        exact hr _ (by omega)
      · rw [upd_other c]
        by_cases d : j = uN (L'.1 10)
        · rw [d, upd_same]
          exact hr _ (by omega)
        · rw [upd_other d]
          exact hr j hj
theorem pgr_12 (h : HQ g l t σ) (h8 : uN (L.1 8) ≤ 1001) (hr : ∀ j, j < uN (L.1 8) → Gv g (σ.2.2.1 16 j)) : Tm (fun k => y_X0_progression k 12 L σ) (Va g t σ) := by
  refine Tm_suc (fun k => by rw [y_X0_progression]) ?_
  refine Tm_ite (fun _ => ?_) (fun _ => Tm_some (Va_e h (AXf_r σ) eSize))
  refine Tm_suc (fun k => by rw [y_X0_progression]) ?_
  refine Tm_ite (fun _ => ?_) (fun _ => ?_)
  · exact Tm_oc (mt16 h (AXf_r σ) rfl (by show uN (L.1 8) ≤ 2048; omega) hr) (fun r z => Tm_some z)
  · refine Tm_suc (fun k => by rw [y_X0_progression]) ?_
    refine pgr_18 h (uN (L.1 8) / 2) _ _ (AXf_r σ) ?_ ?_ ?_
    · exact h8
    · show 0 + uN (L.1 8) / 2 = uN (L.1 8) / 2
      omega
    · exact hr
theorem pgr_11 : ∀ (m : Nat) (L' : LV) (g' : Nat → Prop) (l' : List Nat) (t' : Nat) (σ' : CS), HQ g' l' t' σ' → uN (L'.1 11) + m = 1001 → L'.1 8 = L'.1 11 → W2 g' σ' (L'.1 3) → WR g' σ' (L'.1 5) → WR g' σ' (L'.1 7) → WR g' σ' (L'.1 10) → (∀ j, j < uN (L'.1 8) → Gv g' (σ'.2.2.1 16 j)) → Tm (fun k => y_X0_progression k 11 L' σ') (Va g' t' σ') := by
  intro m
  induction m with
  | zero =>
    intro L' g' l' t' σ' h a11 a8 w3 w5 w7 w10 hr
    refine Tm_suc (fun k => by rw [y_X0_progression]) ?_
    exact Tm_yes (by rw [u_ltn (by decide) (by omega)]; show 1000 < _; omega) (pgr_12 h (by rw [a8]; omega) hr)
  | succ m ih =>
    intro L' g' l' t' σ' h a11 a8 w3 w5 w7 w10 hr
    have e8 : uN (L'.1 8) = uN (L'.1 11) := by rw [a8]
    have e12 : Tm (fun k => y_X0_progression k 12 L' σ') (Va g' t' σ') := pgr_12 h (by omega) hr
    have b14 : ∀ (L2 : LV) (g2 : Nat → Prop) (l2 : List Nat) (t2 : Nat) (σ2 : CS), Ga g' t' σ' g2 l2 t2 σ2 → L2.1 11 = L'.1 11 → L2.1 8 = L'.1 8 + 1 → W2 g2 σ2 (L2.1 3) → WR g2 σ2 (L2.1 5) → WR g2 σ2 (L2.1 7) → WR g2 σ2 (L2.1 100) → (∀ j, j < uN (L'.1 8) + 1 → Gv g2 (σ2.2.2.1 16 j)) → Tm (fun k => y_X0_progression k 14 L2 σ2) (Va g' t' σ') := by
      intro L2 g2 l2 t2 σ2 ga z11 z8 z3 z5 z7 z100 zr
      refine Tm_suc (fun k => by rw [y_X0_progression]) ?_
      refine Tm_mono (ih _ g2 l2 t2 σ2 ga.1 ?_ ?_ z3 z5 z7 z100 ?_) (fun r z => Va_t ga z)
      · show uN (L2.1 11 + 1) + m = 1001
        rw [z11, u_inc (by omega)]; omega
      · show L2.1 8 = L2.1 11 + 1
        rw [z8, z11, a8]
      · show ∀ j, j < uN (L2.1 8) → Gv g2 (σ2.2.2.1 16 j)
        rw [z8, u_inc (by omega)]
        exact zr
    refine Tm_suc (fun k => by rw [y_X0_progression]) ?_
    refine Tm_ite (fun _ => e12) (fun _ => Tm_ite (fun _ => e12) (fun _ => Tm_ite (fun _ => e12) (fun _ => ?_)))
    refine Tm_oc c_isError (fun r4 q4 => ?_)
    have e4 : r4.2 = σ' := q4.1.1
    rw [e4]
    refine Tm_ite (fun c4 => ?_) (fun _ => e12)
    have w10' : W2 g' σ' (L'.1 10) := w10.resolve_right (q4.2.1 c4)
    refine Tm_oc (c_compare h w10'.1 w3.1) (fun r6 q6 => ?_)
    have e6 : r6.2 = σ' := q6
    rw [e6]
    refine Tm_ite (fun _ => e12) (fun _ => ?_)
    refine Tm_oc (c_size h w10'.1) (fun r7 q7 => ?_)
    have e7 : r7.2 = σ' := q7.1
    rw [e7]
    refine Tm_chk (u_in (by omega) (by decide)) ?_
    have ga : Ga g' t' σ' g' l' t' (uA σ' 16 (L'.1 8).toNatClampNeg (L'.1 10)) := Ga_X h (AXf_A σ' (by decide) _ _)
    have hr' : ∀ j, j < uN (L'.1 8) + 1 → Gv g' ((uA σ' 16 (L'.1 8).toNatClampNeg (L'.1 10)).2.2.1 16 j) := by
      rw [u_cl (by omega)]
      exact r16_p hr w10'.1
    refine Tm_ite (fun _ => ?_) (fun _ => ?_)
    · exact b14 _ g' l' t' _ ga rfl rfl (W2_ga h ga w3) (WR_ga h ga w5) (WR_ga h ga w7) (WR_ga h ga w5) hr'
    · refine Tm_suc (fun k => by rw [y_X0_progression]) ?_
      refine Tm_oc c_isError (fun r8 q8 => ?_)
      have e8' : r8.2 = uA σ' 16 (L'.1 8).toNatClampNeg (L'.1 10) := q8.1.1
      rw [e8']
      refine Tm_ite (fun c8 => ?_) (fun c8 => ?_)
      · have w7' : W2 g' σ' (L'.1 7) := w7.resolve_right (q8.2.1 c8)
        refine Tm_suc (fun k => by rw [y_X0_progression]) ?_
        refine Tm_oc (c_added ga.1 (W2_ga h ga w10') (W2_ga h ga w7')) (fun r q => ?_)
        obtain ⟨g2, l2, t2, gr, v⟩ := Vx_2 q
        have ga2 := Ga_t ga (Ga_G gr)
        refine b14 _ g2 l2 t2 _ ga2 rfl rfl (W2_ga h ga2 w3) (WR_ga h ga2 w5) (WR_ga h ga2 w7) v ?_
        intro j hj
        rw [gr.2.2.2.2.2.2.1 16 (by decide)]
        exact Gv_sg (hr' j hj) gr.2.1
      · exact b14 _ g' l' t' _ ga rfl rfl (W2_ga h ga w3) (WR_ga h ga w5) (WR_ga h ga w7) (WR_ga h ga w7) hr'
theorem pgr_8 (h : HQ g l t σ) (w1 : W2 g σ (L.1 1)) (w3 : W2 g σ (L.1 3)) (w5 : WR g σ (L.1 5)) (w7 : WR g σ (L.1 100)) : Tm (fun k => y_X0_progression k 8 L σ) (Va g t σ) := by
  have b9 : ∀ L' : LV, L'.1 8 = 0 → L'.1 1 = L.1 1 → L'.1 3 = L.1 3 → L'.1 5 = L.1 5 → L'.1 7 = L.1 100 → Tm (fun k => y_X0_progression k 9 L' σ) (Va g t σ) := by
    intro L' a8 a1 a3 a5 a7
    refine Tm_suc (fun k => by rw [y_X0_progression]) ?_
    refine pgr_11 1001 _ g l t σ h ?_ ?_ ?_ ?_ ?_ ?_ ?_
    · rfl
    · exact a8
    · show W2 g σ (L'.1 3); rw [a3]; exact w3
    · show WR g σ (L'.1 5); rw [a5]; exact w5
    · show WR g σ (L'.1 7); rw [a7]; exact w7
    · show WR g σ (L'.1 1); rw [a1]; exact Or.inl w1
    · show ∀ j, j < uN (L'.1 8) → _
      rw [a8]
      intro j hj
      exact absurd hj (Nat.not_lt_zero j)
  refine Tm_suc (fun k => by rw [y_X0_progression]) ?_
  refine Tm_ite (fun _ => b9 _ rfl rfl rfl rfl rfl) (fun _ => Tm_ite (fun _ => b9 _ rfl rfl rfl rfl rfl) (fun _ => Tm_ite (fun _ => b9 _ rfl rfl rfl rfl rfl) (fun _ => ?_)))
  refine Tm_oc c_isError (fun r4 q4 => ?_)
  have e4 : r4.2 = σ := q4.1.1
  rw [e4]
  refine Tm_ite (fun _ => ?_) (fun _ => b9 _ rfl rfl rfl rfl rfl)
  refine Tm_oc c_number (fun r6 q6 => ?_)
  have e6 : r6.2 = σ := q6
  rw [e6]
  refine Tm_oc c_number (fun r7 q7 => ?_)
  have e7 : r7.2 = σ := q7
  rw [e7]
  refine Tm_suc (fun k => by rw [y_X0_progression]) ?_
  refine Tm_oc c_number (fun r8 q8 => ?_)
  have e8 : r8.2 = σ := q8
  rw [e8]
  refine Tm_oc (c_smallSteps g) (fun r9 q9 => ?_)
  obtain ⟨w, n1, hr⟩ := q9
  exact Tm_mono (pgr_12 (HQ_X h w) n1 hr) (fun r z => Va_t (Ga_X h w) z)
theorem pgr_4 (h : HQ g l t σ) (w1 : W2 g σ (L.1 1)) (w3 : W2 g σ (L.1 3)) (w5 : WR g σ (L.1 100)) : Tm (fun k => y_X0_progression k 4 L σ) (Va g t σ) := by
  have b6 : ∀ L' : LV, L'.1 1 = L.1 1 → L'.1 3 = L.1 3 → L'.1 5 = L.1 100 → Tm (fun k => y_X0_progression k 6 L' σ) (Va g t σ) := by
    intro L' a1 a3 a5
    have w1' : W2 g σ (L'.1 1) := by rw [a1]; exact w1
    have w3' : W2 g σ (L'.1 3) := by rw [a3]; exact w3
    have w5' : WR g σ (L'.1 5) := by rw [a5]; exact w5
    refine Tm_suc (fun k => by rw [y_X0_progression]) ?_
    refine Tm_oc c_isError (fun r4 q4 => ?_)
    have e4 : r4.2 = σ := q4.1.1
    rw [e4]
    refine Tm_ite (fun c => ?_) (fun _ => pgr_8 h w1' w3' w5' w5')
    have w5'' : W2 g σ (L'.1 5) := w5'.resolve_right (q4.2.1 c)
    refine Tm_suc (fun k => by rw [y_X0_progression]) ?_
    refine Tm_oc (c_added h w5'' w1') (fun r q => ?_)
    obtain ⟨g2, l2, t2, gr, v⟩ := Vx_2 q
    have ga := Ga_G gr
    exact Tm_mono (pgr_8 ga.1 (W2_ga h ga w1') (W2_ga h ga w3') (WR_ga h ga w5') v) (fun r z => Va_t ga z)
  refine Tm_suc (fun k => by rw [y_X0_progression]) ?_
  refine Tm_oc c_isError (fun r4 q4 => ?_)
  have e4 : r4.2 = σ := q4.1.1
  rw [e4]
  refine Tm_ite (fun c => ?_) (fun _ => b6 _ rfl rfl rfl)
  refine Tm_suc (fun k => by rw [y_X0_progression]) ?_
  refine Tm_oc (c_compare h (WR_g w5) w1.1) (fun r6 q6 => ?_)
  have e6 : r6.2 = σ := q6
  rw [e6]
  exact b6 _ rfl rfl rfl
theorem c_progression (h : HQ g l t σ) (h1 : Gv g (L.1 1)) (h2 : Gv g (L.1 2)) (h3 : Gv g (L.1 3)) : Tm (fun k => y_X0_progression k 0 L σ) (Va g t σ) := by
  have b1 : ∀ L' : LV, Tm (fun k => y_X0_progression k 1 L' σ) (Va g t σ) := by
    intro L'
    refine Tm_suc (fun k => by rw [y_X0_progression]) ?_
    exact Tm_some (Va_e h (AXf_r σ) eKind)
  have b2 : W2 g σ (L.1 1) → W2 g σ (L.1 3) → (L.1 2 = -2147483648 ∨ W2 g σ (L.1 2)) → Tm (fun k => y_X0_progression k 2 L σ) (Va g t σ) := by
    intro w1 w3 w2
    refine Tm_suc (fun k => by rw [y_X0_progression]) ?_
    refine Tm_ite (fun c => ?_) (fun c => ?_)
    · refine Tm_oc (c_added h w1 (W2_i (v := -1610612735) σ (by decide) (by decide))) (fun r q => ?_)
      obtain ⟨g2, l2, t2, gr, v⟩ := Vx_2 q
      have ga := Ga_G gr
      exact Tm_mono (pgr_4 ga.1 (W2_ga h ga w1) (W2_ga h ga w3) v) (fun r z => Va_t ga z)
    · refine Tm_suc (fun k => by rw [y_X0_progression]) ?_
      exact pgr_4 h w1 w3 (Or.inl (w2.resolve_left c))
  refine Tm_suc (fun k => by rw [y_X0_progression]) ?_
  refine Tm_oc (c_areWholes h h1 h3) (fun r q => ?_)
  have e : r.2 = σ := q.1
  rw [e]
  refine Tm_ite (fun _ => b1 _) (fun c => ?_)
  have w := q.2 c
  refine Tm_ite (fun c2 => b2 ⟨h1, w.1⟩ ⟨h3, w.2⟩ (Or.inl c2)) (fun _ => ?_)
  refine Tm_ocE (c_kind h h2) ?_
  refine Tm_ite (fun c4 => ?_) (fun _ => b1 _)
  exact b2 ⟨h1, w.1⟩ ⟨h3, w.2⟩ (Or.inr ⟨h2, kd_n (n := 2) (by decide) c4⟩)
end CSI
