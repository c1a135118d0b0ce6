/-! The class: powers, long division. -/
section CRN
variable {g g' g2 : Nat → Prop} {l l' : List Nat} {t t' t2 : Nat} {σ σ' σ2 : CS} {L : LV} {x y i : Int32} {M M' : Nat → Int32}
theorem u_dbl {x : Int32} (h : uN x < 2147483648) : uN (2 * x) = 2 * uN x := by
  show ((2 : Int32).toBitVec * x.toBitVec).toNat = _
  rw [BitVec.toNat_mul]
  show 2 * uN x % 4294967296 = _
  omega
theorem W2_i (σ : CS) {v : Int32} (a : 2684354560 ≤ uN v) (b : uN v < 2952790016) : W2 g σ v := by
  refine ⟨Or.inl ⟨by omega, by omega⟩, ?_⟩
  unfold kdC
  rw [if_neg (by omega)]
  omega
/-- not an error, so a whole -/
theorem Vx_2 {r : Int32 × CS} (q : Vx g t σ 2 r) : ∃ (g' : Nat → Prop) (l' : List Nat) (t' : Nat), Gr g t σ g' l' t' r.2 ∧ (W2 g' r.2 r.1 ∨ Rw r.1) := by
  obtain ⟨a, b, c, d, e⟩ := q
  exact ⟨a, b, c, d, e⟩
theorem pw_11 : ∀ (m : Nat) (L : LV) (g' : Nat → Prop) (l' : List Nat) (t' : Nat) (σ' : CS), Gr g t σ g' l' t' σ' → (uN (L.1 6) + 1 = m ∨ (2147483648 ≤ uN (L.1 6) ∧ m = 0)) → m ≤ 12 → W2 g' σ' (L.1 1) → (W2 g' σ' (L.1 5) ∨ Rw (L.1 5)) → Tm (fun k => y_X10_power k 11 L σ') (Vx g t σ 2) := by
  have b12 : ∀ (L : LV) (g' : Nat → Prop) (l' : List Nat) (t' : Nat) (σ' : CS), Gr g t σ g' l' t' σ' → (W2 g' σ' (L.1 5) ∨ Rw (L.1 5)) → Tm (fun k => y_X10_power k 12 L σ') (Vx g t σ 2) := by
    intro L g' l' t' σ' hG d
    refine Tm_suc (fun k => by rw [y_X10_power]) ?_
    exact Tm_some ⟨g', l', t', hG, d⟩
  intro m
  induction m with
  | zero =>
    intro L g' l' t' σ' hG d6 hm d1 d5
    refine Tm_suc (fun k => by rw [y_X10_power]) ?_
    exact Tm_yes (by rw [u_neg]; omega) (b12 _ _ _ _ _ hG d5)
  | succ m ih =>
    intro L g' l' t' σ' hG d6 hm d1 d5
    have b13 : ∀ (L2 : LV) (g2 : Nat → Prop) (l2 : List Nat) (t2 : Nat) (σ2 : CS), Gr g t σ g2 l2 t2 σ2 → L2.1 6 = L.1 6 → W2 g2 σ2 (L2.1 1) → (W2 g2 σ2 (L2.1 5) ∨ Rw (L2.1 5)) → Tm (fun k => y_X10_power k 13 L2 σ2) (Vx g t σ 2) := by
      intro L2 g2 l2 t2 σ2 hG2 a6 a1 a5
      refine Tm_suc (fun k => by rw [y_X10_power]) ?_
      refine ih _ _ _ _ _ hG2 ?_ (by omega) ?_ ?_
      · show uN (L2.1 6 + (-1)) + 1 = m ∨ (2147483648 ≤ uN (L2.1 6 + (-1)) ∧ m = 0)
        rw [a6]
        by_cases c : uN (L.1 6) = 0
        · right
          rw [show L.1 6 = 0 from by rw [u_eq, c]; rfl]
          exact ⟨by decide, by omega⟩
        · left
          rw [u_dec (by omega)]; omega
      · exact a1
      · exact a5
    refine Tm_suc (fun k => by rw [y_X10_power]) ?_
    refine Tm_ite (fun _ => b12 _ _ _ _ _ hG d5) (fun _ => ?_)
    refine Tm_oc c_isError (fun r2 h2 => ?_)
    have e2 : r2.2 = σ' := h2.1.1
    rw [e2]
    refine Tm_ite (fun c => ?_) (fun _ => b12 _ _ _ _ _ hG d5)
    have q5 : W2 g' σ' (L.1 5) := d5.resolve_right (h2.2.1 c)
    refine Tm_oc (c_product hG.1 q5 q5) (fun r4 h4 => ?_)
    obtain ⟨g4, l4, t4, G4, v4⟩ := Vx_2 h4
    have GG := Gr_t hG G4
    have d14 : W2 g4 r4.2 (L.1 1) := W2_G hG.1 G4 d1
    refine Tm_oc c_isError (fun r5 h5 => ?_)
    have e5 : r5.2 = r4.2 := h5.1.1
    rw [e5]
    refine Tm_ite (fun c5 => Tm_ite (fun _ => ?_) (fun _ => ?_)) (fun _ => ?_)
    · have q4 : W2 g4 r4.2 r4.1 := v4.resolve_right (h5.2.1 c5)
      refine Tm_oc (c_product GG.1 q4 d14) (fun r8 h8 => ?_)
      obtain ⟨g8, l8, t8, G8, v8⟩ := Vx_2 h8
      exact b13 _ _ _ _ _ (Gr_t GG G8) rfl (W2_G GG.1 G8 d14) v8
    · exact b13 _ _ _ _ _ GG rfl d14 v4
    · exact b13 _ _ _ _ _ GG rfl d14 v4
theorem c_power (h : HQ g l t σ) (hx : W2 g σ (L.1 1)) (hy : W2 g σ (L.1 2)) : Tm (fun k => y_X10_power k 0 L σ) (Vx g t σ 2) := by
  have one : Vx g t σ 2 (-1610612735, σ) := Vx_i h (WF_r σ) (by decide) (by decide)
  have b2 : ∀ L' : LV, Tm (fun k => y_X10_power k 2 L' σ) (Vx g t σ 2) := by
    intro L'
    refine Tm_suc (fun k => by rw [y_X10_power]) ?_
    exact Tm_some one
  have b10 : ∀ L' : LV, Vx g t σ 2 (L'.1 100, σ) → Tm (fun k => y_X10_power k 10 L' σ) (Vx g t σ 2) := by
    intro L' d
    refine Tm_suc (fun k => by rw [y_X10_power]) ?_
    exact Tm_some d
  have ax : Vx g t σ 2 (L.1 1, σ) := ⟨g, l, t, Gr_W h (WF_r σ), Or.inl hx⟩
  have b7 : ∀ L' : LV, L'.1 1 = L.1 1 → Tm (fun k => y_X10_power k 7 L' σ) (Vx g t σ 2) := by
    intro L' a1
    refine Tm_suc (fun k => by rw [y_X10_power]) ?_
    refine Tm_ite (fun _ => b10 _ one) (fun _ => ?_)
    refine Tm_suc (fun k => by rw [y_X10_power]) ?_
    refine b10 _ ?_
    show Vx g t σ 2 (L'.1 1, σ)
    rw [a1]
    exact ax
  refine Tm_suc (fun k => by rw [y_X10_power]) ?_
  refine Tm_oc (c_isBelow h hy.1) (fun r1 h1 => ?_)
  have e1 : r1.2 = σ := h1.1
  rw [e1]
  refine Tm_ite (fun _ => ?_) (fun _ => Tm_some (Vx_raw h (WF_r σ) (by show 4026531840 ≤ uN (-268435452) ∧ ¬ uN (-268435452) % 16 = 0; decide)))
  refine Tm_suc (fun k => by rw [y_X10_power]) ?_
  refine Tm_ite (fun _ => b2 _) (fun _ => Tm_ite (fun _ => b2 _) (fun _ => ?_))
  refine Tm_suc (fun k => by rw [y_X10_power]) ?_
  refine Tm_ite (fun _ => Tm_some ax) (fun _ => ?_)
  refine Tm_suc (fun k => by rw [y_X10_power]) ?_
  refine Tm_oc c_small (fun r h2 => ?_)
  have e2 : r.2 = σ := h2.1
  rw [e2]
  refine Tm_ite (fun _ => Tm_ite (fun c => ?_) (fun _ => b7 _ rfl)) (fun _ => ?_)
  · rw [u_nn] at c
    have k2 := W2_h hy c
    have cg := (HQ_c h (Gv_c hy.1 c).2).2.2.2.2.2.2.2.2.1 k2
    have w : hdW (uN (σ.2.2.1 3 (uN (L.1 2)))) = hdL (uN (σ.2.2.1 3 (uN (L.1 2)))) := by
      unfold hdK at k2; unfold hdW; rw [if_neg (by omega)]
    refine Tm_suc (fun k => by rw [y_X10_power]) ?_
    refine Tm_chk (in_gi (y := 1) h hy.1 c (by show 1 ≤ _; omega)).1 ?_
    exact b7 _ rfl
  · refine Tm_suc (fun k => by rw [y_X10_power]) ?_
    refine Tm_oc (c_clamped h hy.1) (fun r3 h3 => ?_)
    have e3 : r3.2 = σ := h3
    rw [e3]
    refine Tm_ite (fun _ => ?_) (fun _ => Tm_some (Vx_raw h (WF_r σ) (by show 4026531840 ≤ uN (-268435451) ∧ ¬ uN (-268435451) % 16 = 0; decide)))
    refine Tm_suc (fun k => by rw [y_X10_power]) ?_
    refine Tm_oc c_number (fun r4 h4 => ?_)
    have e4 : r4.2 = σ := h4
    rw [e4]
    refine pw_11 12 _ g l t σ (Gr_W h (WF_r σ)) ?_ (by decide) ?_ ?_
    · left; rfl
    · exact hx
    · left; exact W2_i σ (by show 2684354560 ≤ uN (-1610612735); decide) (by show uN (-1610612735) < 2952790016; decide)
theorem c_fill10 : Tm (fun k => y_J7_fill_53178__a10 k 0 L σ) (fun r => WF σ r.2) := by
  have b1 : ∀ (m : Nat) (L' : LV) (σ' : CS), WF σ σ' → uN (L'.1 2) + m = 72 → uN (L'.1 3) = 72 → Tm (fun k => y_J7_fill_53178__a10 k 1 L' σ') (fun r => WF σ r.2) := by
    intro m
    induction m with
    | zero =>
      intro L' σ' w d2 d3
      refine Tm_suc (fun k => by rw [y_J7_fill_53178__a10]) ?_
      refine Tm_yes (by rw [u_le (by omega) (by omega)]; omega) ?_
      refine Tm_suc (fun k => by rw [y_J7_fill_53178__a10]) ?_
      exact Tm_some w
    | succ m ih =>
      intro L' σ' w d2 d3
      refine Tm_suc (fun k => by rw [y_J7_fill_53178__a10]) ?_
      refine Tm_ite (fun q => absurd q (by rw [u_le (by omega) (by omega)]; omega)) (fun _ => ?_)
      refine Tm_chk (u_in (by omega) (by decide)) ?_
      refine ih _ _ (WF_t w (WF_A _ (by decide) _ _)) ?_ ?_
      · show uN (L'.1 2 + 1) + m = 72
        rw [u_inc (by omega)]; omega
      · exact d3
  refine Tm_suc (fun k => by rw [y_J7_fill_53178__a10]) ?_
  exact b1 72 _ σ (WF_r σ) rfl rfl
theorem c_fill8 : Tm (fun k => y_J7_fill_53178__a8 k 0 L σ) (fun r => WF σ r.2) := by
  have b1 : ∀ (m : Nat) (L' : LV) (σ' : CS), WF σ σ' → uN (L'.1 2) + m = 72 → uN (L'.1 3) = 72 → Tm (fun k => y_J7_fill_53178__a8 k 1 L' σ') (fun r => WF σ r.2) := by
    intro m
    induction m with
    | zero =>
      intro L' σ' w d2 d3
      refine Tm_suc (fun k => by rw [y_J7_fill_53178__a8]) ?_
      refine Tm_yes (by rw [u_le (by omega) (by omega)]; omega) ?_
      refine Tm_suc (fun k => by rw [y_J7_fill_53178__a8]) ?_
      exact Tm_some w
    | succ m ih =>
      intro L' σ' w d2 d3
      refine Tm_suc (fun k => by rw [y_J7_fill_53178__a8]) ?_
      refine Tm_ite (fun q => absurd q (by rw [u_le (by omega) (by omega)]; omega)) (fun _ => ?_)
      refine Tm_chk (u_in (by omega) (by decide)) ?_
      refine ih _ _ (WF_t w (WF_A _ (by decide) _ _)) ?_ ?_
      · show uN (L'.1 2 + 1) + m = 72
        rw [u_inc (by omega)]; omega
      · exact d3
  refine Tm_suc (fun k => by rw [y_J7_fill_53178__a8]) ?_
  exact b1 72 _ σ (WF_r σ) rfl rfl
theorem c_fill9 : Tm (fun k => y_J7_fill_53178__a9 k 0 L σ) (fun r => WF σ r.2) := by
  have b1 : ∀ (m : Nat) (L' : LV) (σ' : CS), WF σ σ' → uN (L'.1 2) + m = 72 → uN (L'.1 3) = 72 → Tm (fun k => y_J7_fill_53178__a9 k 1 L' σ') (fun r => WF σ r.2) := by
    intro m
    induction m with
    | zero =>
      intro L' σ' w d2 d3
      refine Tm_suc (fun k => by rw [y_J7_fill_53178__a9]) ?_
      refine Tm_yes (by rw [u_le (by omega) (by omega)]; omega) ?_
      refine Tm_suc (fun k => by rw [y_J7_fill_53178__a9]) ?_
      exact Tm_some w
    | succ m ih =>
      intro L' σ' w d2 d3
      refine Tm_suc (fun k => by rw [y_J7_fill_53178__a9]) ?_
      refine Tm_ite (fun q => absurd q (by rw [u_le (by omega) (by omega)]; omega)) (fun _ => ?_)
      refine Tm_chk (u_in (by omega) (by decide)) ?_
      refine ih _ _ (WF_t w (WF_A _ (by decide) _ _)) ?_ ?_
      · show uN (L'.1 2 + 1) + m = 72
        rw [u_inc (by omega)]; omega
      · exact d3
  refine Tm_suc (fun k => by rw [y_J7_fill_53178__a9]) ?_
  exact b1 72 _ σ (WF_r σ) rfl rfl
theorem c_shiftUp8 (n1 : uN (L.1 1) ≤ 72) : Tm (fun k => y_X10_shiftUp__a8 k 0 L σ) (fun r => WF σ r.2) := by
  have b1 : ∀ (m : Nat) (L' : LV) (σ' : CS), WF σ σ' → uN (L'.1 4) + m = uN (L.1 1) → L'.1 1 = L.1 1 → Tm (fun k => y_X10_shiftUp__a8 k 1 L' σ') (fun r => WF σ r.2) := by
    intro m
    induction m with
    | zero =>
      intro L' σ' w d4 d1
      refine Tm_suc (fun k => by rw [y_X10_shiftUp__a8]) ?_
      refine Tm_yes (by rw [d1, u_le (by omega) (by omega)]; omega) ?_
      refine Tm_suc (fun k => by rw [y_X10_shiftUp__a8]) ?_
      exact Tm_some w
    | succ m ih =>
      intro L' σ' w d4 d1
      refine Tm_suc (fun k => by rw [y_X10_shiftUp__a8]) ?_
      refine Tm_ite (fun q => absurd q (by rw [d1, u_le (by omega) (by omega)]; omega)) (fun _ => ?_)
      refine Tm_chk (u_in (by omega) (by decide)) ?_
      refine Tm_chk (u_in (by omega) (by decide)) ?_
      refine ih _ _ (WF_t w (WF_A _ (by decide) _ _)) ?_ ?_
      · show uN (L'.1 4 + 1) + m = _
        rw [u_inc (by omega)]; omega
      · exact d1
  refine Tm_suc (fun k => by rw [y_X10_shiftUp__a8]) ?_
  exact b1 (uN (L.1 1)) _ σ (WF_r σ) (by show 0 + _ = _; omega) rfl
theorem c_shiftUp9 (n1 : uN (L.1 1) ≤ 72) : Tm (fun k => y_X10_shiftUp__a9 k 0 L σ) (fun r => WF σ r.2) := by
  have b1 : ∀ (m : Nat) (L' : LV) (σ' : CS), WF σ σ' → uN (L'.1 4) + m = uN (L.1 1) → L'.1 1 = L.1 1 → Tm (fun k => y_X10_shiftUp__a9 k 1 L' σ') (fun r => WF σ r.2) := by
    intro m
    induction m with
    | zero =>
      intro L' σ' w d4 d1
      refine Tm_suc (fun k => by rw [y_X10_shiftUp__a9]) ?_
      refine Tm_yes (by rw [d1, u_le (by omega) (by omega)]; omega) ?_
      refine Tm_suc (fun k => by rw [y_X10_shiftUp__a9]) ?_
      exact Tm_some w
    | succ m ih =>
      intro L' σ' w d4 d1
      refine Tm_suc (fun k => by rw [y_X10_shiftUp__a9]) ?_
      refine Tm_ite (fun q => absurd q (by rw [d1, u_le (by omega) (by omega)]; omega)) (fun _ => ?_)
      refine Tm_chk (u_in (by omega) (by decide)) ?_
      refine Tm_chk (u_in (by omega) (by decide)) ?_
      refine ih _ _ (WF_t w (WF_A _ (by decide) _ _)) ?_ ?_
      · show uN (L'.1 4 + 1) + m = _
        rw [u_inc (by omega)]; omega
      · exact d1
  refine Tm_suc (fun k => by rw [y_X10_shiftUp__a9]) ?_
  exact b1 (uN (L.1 1)) _ σ (WF_r σ) (by show 0 + _ = _; omega) rfl
theorem c_shiftDown (n1 : uN (L.1 1) < 72) : Tm (fun k => y_X10_shiftDown__a8 k 0 L σ) (fun r => WF σ r.2) := by
  have b1 : ∀ (m : Nat) (L' : LV) (σ' : CS), WF σ σ' → uN (L'.1 3) + m = uN (L.1 1) → L'.1 1 = L.1 1 → Tm (fun k => y_X10_shiftDown__a8 k 1 L' σ') (fun r => WF σ r.2) := by
    intro m
    induction m with
    | zero =>
      intro L' σ' w d4 d1
      refine Tm_suc (fun k => by rw [y_X10_shiftDown__a8]) ?_
      refine Tm_yes (by rw [d1, u_le (by omega) (by omega)]; omega) ?_
      refine Tm_suc (fun k => by rw [y_X10_shiftDown__a8]) ?_
      exact Tm_some w
    | succ m ih =>
      intro L' σ' w d4 d1
      have e3 : uN (L'.1 3 + 1) = uN (L'.1 3) + 1 := u_inc (by omega)
      refine Tm_suc (fun k => by rw [y_X10_shiftDown__a8]) ?_
      refine Tm_ite (fun q => absurd q (by rw [d1, u_le (by omega) (by omega)]; omega)) (fun _ => ?_)
      refine Tm_chk (u_in (by omega) (by decide)) ?_
      refine Tm_chk (u_in (by omega) (by decide)) ?_
      refine Tm_chk (u_in (by omega) (by decide)) ?_
      refine ih _ _ (WF_t w (WF_A _ (by decide) _ _)) ?_ ?_
      · show uN (L'.1 3 + 1) + m = _
        omega
      · exact d1
  refine Tm_suc (fun k => by rw [y_X10_shiftDown__a8]) ?_
  exact b1 (uN (L.1 1)) _ σ (WF_r σ) (by show 0 + _ = _; omega) rfl
theorem c_unpackRest (n1 : uN (L.1 1) ≤ 36) : Tm (fun k => y_X10_unpackRest k 0 L σ) (fun r => WF σ r.2 ∧ True) := by
  have b1 : ∀ (m : Nat) (L' : LV) (σ' : CS), WF σ σ' → uN (L'.1 2) + m = uN (L.1 1) → L'.1 1 = L.1 1 → Tm (fun k => y_X10_unpackRest k 1 L' σ') (fun r => WF σ r.2 ∧ True) := by
    intro m
    induction m with
    | zero =>
      intro L' σ' w d4 d1
      refine Tm_suc (fun k => by rw [y_X10_unpackRest]) ?_
      refine Tm_yes (by rw [d1, u_le (by omega) (by omega)]; omega) ?_
      refine Tm_suc (fun k => by rw [y_X10_unpackRest]) ?_
      exact Tm_some ⟨w, trivial⟩
    | succ m ih =>
      intro L' σ' w d4 d1
      have e2 : uN (2 * L'.1 2) = 2 * uN (L'.1 2) := u_dbl (by omega)
      have e3 : uN (2 * L'.1 2 + 1) = 2 * uN (L'.1 2) + 1 := by rw [u_inc (by omega), e2]
      refine Tm_suc (fun k => by rw [y_X10_unpackRest]) ?_
      refine Tm_ite (fun q => absurd q (by rw [d1, u_le (by omega) (by omega)]; omega)) (fun _ => ?_)
      refine Tm_chk (u_in (by omega) (by decide)) ?_
      refine Tm_chk (u_in (by omega) (by decide)) ?_
      refine Tm_chk (u_in (by omega) (by decide)) ?_
      refine ih _ _ (WF_t w (WF_A _ (by decide) _ _)) ?_ ?_
      · show uN (L'.1 2 + 1) + m = _
        rw [u_inc (by omega)]; omega
      · exact d1
  refine Tm_suc (fun k => by rw [y_X10_unpackRest]) ?_
  exact b1 (uN (L.1 1)) _ σ (WF_r σ) (by show 0 + _ = _; omega) rfl
theorem c_unpackQuotient (n1 : uN (L.1 1) ≤ 36) : Tm (fun k => y_X10_unpackQuotient k 0 L σ) (fun r => WF σ r.2 ∧ r.1 = L.1 1) := by
  have b1 : ∀ (m : Nat) (L' : LV) (σ' : CS), WF σ σ' → uN (L'.1 2) + m = uN (L.1 1) → L'.1 1 = L.1 1 → Tm (fun k => y_X10_unpackQuotient k 1 L' σ') (fun r => WF σ r.2 ∧ r.1 = L.1 1) := by
    intro m
    induction m with
    | zero =>
      intro L' σ' w d4 d1
      refine Tm_suc (fun k => by rw [y_X10_unpackQuotient]) ?_
      refine Tm_yes (by rw [d1, u_le (by omega) (by omega)]; omega) ?_
      refine Tm_suc (fun k => by rw [y_X10_unpackQuotient]) ?_
      exact Tm_some ⟨w, d1⟩
    | succ m ih =>
      intro L' σ' w d4 d1
      have e2 : uN (2 * L'.1 2) = 2 * uN (L'.1 2) := u_dbl (by omega)
      have e3 : uN (2 * L'.1 2 + 1) = 2 * uN (L'.1 2) + 1 := by rw [u_inc (by omega), e2]
      refine Tm_suc (fun k => by rw [y_X10_unpackQuotient]) ?_
      refine Tm_ite (fun q => absurd q (by rw [d1, u_le (by omega) (by omega)]; omega)) (fun _ => ?_)
      refine Tm_chk (u_in (by omega) (by decide)) ?_
      refine Tm_chk (u_in (by omega) (by decide)) ?_
      refine Tm_chk (u_in (by omega) (by decide)) ?_
      refine ih _ _ (WF_t w (WF_A _ (by decide) _ _)) ?_ ?_
      · show uN (L'.1 2 + 1) + m = _
        rw [u_inc (by omega)]; omega
      · exact d1
  refine Tm_suc (fun k => by rw [y_X10_unpackQuotient]) ?_
  exact b1 (uN (L.1 1)) _ σ (WF_r σ) (by show 0 + _ = _; omega) rfl
theorem c_restLimbs (n1 : uN (L.1 1) ≤ 72) : Tm (fun k => y_X10_restLimbs k 0 L σ) (fun r => r.2 = σ ∧ uN r.1 ≤ 72) := by
  have b2 : ∀ L' : LV, uN (L'.1 2) ≤ 72 → Tm (fun k => y_X10_restLimbs k 2 L' σ) (fun r => r.2 = σ ∧ uN r.1 ≤ 72) := by
    intro L' d
    refine Tm_suc (fun k => by rw [y_X10_restLimbs]) ?_
    exact Tm_some ⟨rfl, d⟩
  have b1 : ∀ (m : Nat) (L' : LV), m ≤ 72 → uN (L'.1 3) = m → L'.1 2 = L'.1 3 → Tm (fun k => y_X10_restLimbs k 1 L' σ) (fun r => r.2 = σ ∧ uN r.1 ≤ 72) := by
    intro m
    induction m with
    | zero =>
      intro L' hm d3 d2
      refine Tm_suc (fun k => by rw [y_X10_restLimbs]) ?_
      exact Tm_yes (by rw [u_le (by omega) (by decide), d3]; exact Nat.zero_le _) (b2 _ (by rw [d2]; omega))
    | succ m ih =>
      intro L' hm d3 d2
      have e : uN (L'.1 3 - 1) = m := by
        rw [u_sub (by rw [d3]; show 1 ≤ _; omega), d3]; rfl
      refine Tm_suc (fun k => by rw [y_X10_restLimbs]) ?_
      refine Tm_ite (fun _ => b2 _ (by rw [d2]; omega)) (fun _ => ?_)
      refine Tm_chk (u_in (by omega) (by decide)) ?_
      refine Tm_ite (fun _ => ?_) (fun _ => b2 _ (by rw [d2]; omega))
      refine ih _ (by omega) ?_ ?_
      · show uN (L'.1 3 + (-1)) = m
        rw [u_dec (by omega)]; omega
      · show L'.1 3 - 1 = L'.1 3 + (-1)
        rw [u_eq, u_dec (by omega), e]; omega
  refine Tm_suc (fun k => by rw [y_X10_restLimbs]) ?_
  exact b1 (uN (L.1 1)) _ n1 rfl rfl
theorem c_addOne (n1 : uN (L.1 1) < 72) : Tm (fun k => y_X10_addOne k 0 L σ) (fun r => WF σ r.2 ∧ uN r.1 ≤ 72) := by
  have b1 : ∀ (m : Nat) (L' : LV) (σ' : CS), WF σ σ' → uN (L'.1 2) + m = uN (L.1 1) → L'.1 1 = L.1 1 → Tm (fun k => y_X10_addOne k 1 L' σ') (fun r => WF σ r.2 ∧ uN r.1 ≤ 72) := by
    intro m
    induction m with
    | zero =>
      intro L' σ' w d4 d1
      refine Tm_suc (fun k => by rw [y_X10_addOne]) ?_
      refine Tm_yes (by rw [d1, u_le (by omega) (by omega)]; omega) ?_
      refine Tm_suc (fun k => by rw [y_X10_addOne]) ?_
      refine Tm_chk (u_in (by rw [d1]; omega) (by decide)) ?_
      refine Tm_some ⟨WF_t w (WF_A _ (by decide) _ _), ?_⟩
      show uN (L'.1 1 + 1) ≤ 72
      rw [d1, u_inc (by omega)]; omega
    | succ m ih =>
      intro L' σ' w d4 d1
      refine Tm_suc (fun k => by rw [y_X10_addOne]) ?_
      refine Tm_ite (fun q => absurd q (by rw [d1, u_le (by omega) (by omega)]; omega)) (fun _ => ?_)
      refine Tm_chk (u_in (by omega) (by decide)) ?_
      refine Tm_chk (u_in (by omega) (by decide)) ?_
      refine Tm_chk (u_in (by omega) (by decide)) ?_
      refine Tm_ite (fun _ => ?_) (fun _ => Tm_some ⟨WF_t w (WF_A _ (by decide) _ _), by show uN (L'.1 1) ≤ 72; rw [d1]; omega⟩)
      refine Tm_suc (fun k => by rw [y_X10_addOne]) ?_
      refine ih _ _ (WF_t w (WF_A _ (by decide) _ _)) ?_ ?_
      · show uN (L'.1 2 + 1) + m = _
        rw [u_inc (by omega)]; omega
      · exact d1
  refine Tm_suc (fun k => by rw [y_X10_addOne]) ?_
  exact b1 (uN (L.1 1)) _ σ (WF_r σ) (by show 0 + _ = _; omega) rfl
theorem cmp0 {x : Int64} (h : ¬ nbCmp x 0 = 0) : ¬ x = 0 := by
  intro e
  rw [e] at h
  exact h (by decide)
theorem c_dividedSmall (h : HQ g l t σ) : Tm (fun k => y_X10_dividedSmall k 0 L σ) (Vx g t σ 2) := by
  refine Tm_suc (fun k => by rw [y_X10_dividedSmall]) ?_
  refine Tm_ite (fun _ => Tm_some (Vx_raw h (WF_r σ) (by show 4026531840 ≤ uN (-268435454) ∧ ¬ uN (-268435454) % 16 = 0; decide))) (fun c => ?_)
  have c3 := cmp0 c
  have b6 : ∀ L' : LV, Tm (fun k => y_X10_dividedSmall k 6 L' σ) (Vx g t σ 2) := by
    intro L'
    refine Tm_suc (fun k => by rw [y_X10_dividedSmall]) ?_
    exact Tm_oc (c_of h) (fun r hr => Tm_some hr)
  have b2 : ∀ L' : LV, L'.2.1 3 = L.2.1 3 → Tm (fun k => y_X10_dividedSmall k 2 L' σ) (Vx g t σ 2) := by
    intro L' a3
    refine Tm_suc (fun k => by rw [y_X10_dividedSmall]) ?_
    refine Tm_ite (fun _ => ?_) (fun _ => b6 _)
    refine Tm_suc (fun k => by rw [y_X10_dividedSmall]) ?_
    refine Tm_chk0 (by rw [a3]; exact c3) ?_
    exact b6 _
  have b4 : ∀ L' : LV, L'.2.1 3 = L.2.1 3 → Tm (fun k => y_X10_dividedSmall k 4 L' σ) (Vx g t σ 2) := by
    intro L' a3
    refine Tm_suc (fun k => by rw [y_X10_dividedSmall]) ?_
    refine b2 _ ?_
    exact a3
  refine Tm_suc (fun k => by rw [y_X10_dividedSmall]) ?_
  refine Tm_chk0 c3 ?_
  refine Tm_ite (fun _ => b2 _ rfl) (fun _ => Tm_ite (fun _ => ?_) (fun _ => b4 _ rfl))
  refine Tm_suc (fun k => by rw [y_X10_dividedSmall]) ?_
  exact b4 _ rfl
theorem c_addBack (n1 : uN (L.1 1) + uN (L.1 2) < 72) : Tm (fun k => y_X10_addBack k 0 L σ) (fun r => WF σ r.2) := by
  have b1 : ∀ (m : Nat) (L' : LV) (σ' : CS), WF σ σ' → uN (L'.1 4) + m = uN (L.1 2) → L'.1 1 = L.1 1 → L'.1 2 = L.1 2 → Tm (fun k => y_X10_addBack k 1 L' σ') (fun r => WF σ r.2) := by
    intro m
    induction m with
    | zero =>
      intro L' σ' w d4 d1 d2
      have e : uN (L'.1 1 + L'.1 2) = uN (L.1 1) + uN (L.1 2) := by rw [d1, d2, u_add (by omega)]
      refine Tm_suc (fun k => by rw [y_X10_addBack]) ?_
      refine Tm_yes (by rw [d2, u_le (by omega) (by omega)]; omega) ?_
      refine Tm_suc (fun k => by rw [y_X10_addBack]) ?_
      refine Tm_chk (u_in (by omega) (by decide)) ?_
      refine Tm_chk (u_in (by omega) (by decide)) ?_
      exact Tm_some (WF_t w (WF_A _ (by decide) _ _))
    | succ m ih =>
      intro L' σ' w d4 d1 d2
      have e : uN (L'.1 1 + L'.1 4) = uN (L.1 1) + uN (L'.1 4) := by rw [d1, u_add (by omega)]
      refine Tm_suc (fun k => by rw [y_X10_addBack]) ?_
      refine Tm_ite (fun q => absurd q (by rw [d2, u_le (by omega) (by omega)]; omega)) (fun _ => ?_)
      refine Tm_chk (u_in (by omega) (by decide)) ?_
      refine Tm_chk (u_in (by omega) (by decide)) ?_
      refine Tm_chk (u_in (by omega) (by decide)) ?_
      refine ih _ _ (WF_t w (WF_A _ (by decide) _ _)) ?_ ?_ ?_
      · show uN (L'.1 4 + 1) + m = _
        rw [u_inc (by omega)]; omega
      · exact d1
      · exact d2
  refine Tm_suc (fun k => by rw [y_X10_addBack]) ?_
  exact b1 (uN (L.1 2)) _ σ (WF_r σ) (by show 0 + _ = _; omega) rfl rfl
theorem c_quotientDigit (n1 : uN (L.1 1) + uN (L.1 2) < 72) : Tm (fun k => y_X10_quotientDigit k 0 L σ) (fun r => WF σ r.2) := by
  have e0 : uN (L.1 1 + L.1 2) = uN (L.1 1) + uN (L.1 2) := u_add (by omega)
  have b13 : ∀ (L' : LV) (σ' : CS), WF σ σ' → Tm (fun k => y_X10_quotientDigit k 13 L' σ') (fun r => WF σ r.2) := by
    intro L' σ' w
    refine Tm_suc (fun k => by rw [y_X10_quotientDigit]) ?_
    exact Tm_some w
  have b11 : ∀ (m : Nat) (L' : LV) (σ' : CS), WF σ σ' → uN (L'.1 17) + m = uN (L.1 2) → L'.1 1 = L.1 1 → L'.1 2 = L.1 2 → Tm (fun k => y_X10_quotientDigit k 11 L' σ') (fun r => WF σ r.2) := by
    intro m
    induction m with
    | zero =>
      intro L' σ' w d4 d1 d2
      refine Tm_suc (fun k => by rw [y_X10_quotientDigit]) ?_
      refine Tm_yes (by rw [d2, u_le (by omega) (by omega)]; omega) ?_
      refine Tm_suc (fun k => by rw [y_X10_quotientDigit]) ?_
      rw [d1, d2]
      refine Tm_chk (u_in (by omega) (by decide)) ?_
      refine Tm_chk (u_in (by omega) (by decide)) ?_
      refine Tm_ite (fun _ => b13 _ _ (WF_t w (WF_A _ (by decide) _ _))) (fun _ => ?_)
      refine Tm_oc (c_addBack n1) (fun r hr => b13 _ _ ?_)
      exact WF_t (WF_t w (WF_A _ (by decide) _ _)) hr
    | succ m ih =>
      intro L' σ' w d4 d1 d2
      have e : uN (L'.1 1 + L'.1 17) = uN (L.1 1) + uN (L'.1 17) := by rw [d1, u_add (by omega)]
      refine Tm_suc (fun k => by rw [y_X10_quotientDigit]) ?_
      refine Tm_ite (fun q => absurd q (by rw [d2, u_le (by omega) (by omega)]; omega)) (fun _ => ?_)
      refine Tm_chk (u_in (by omega) (by decide)) ?_
      refine Tm_chk (u_in (by omega) (by decide)) ?_
      refine Tm_chk (u_in (by omega) (by decide)) ?_
      refine ih _ _ (WF_t w (WF_A _ (by decide) _ _)) ?_ ?_ ?_
      · show uN (L'.1 17 + 1) + m = _
        rw [u_inc (by omega)]; omega
      · exact d1
      · exact d2
  have b9 : ∀ (L' : LV), L'.1 1 = L.1 1 → L'.1 2 = L.1 2 → Tm (fun k => y_X10_quotientDigit k 9 L' σ) (fun r => WF σ r.2) := by
    intro L' d1 d2
    refine Tm_suc (fun k => by rw [y_X10_quotientDigit]) ?_
    refine b11 (uN (L.1 2)) _ σ (WF_r σ) ?_ ?_ ?_
    · show 0 + _ = _; omega
    · exact d1
    · exact d2
  have b8 : ∀ (m : Nat) (L' : LV), uN (L'.1 15) + m = 4 → L'.1 1 = L.1 1 → L'.1 2 = L.1 2 → Tm (fun k => y_X10_quotientDigit k 8 L' σ) (fun r => WF σ r.2) := by
    intro m
    induction m with
    | zero =>
      intro L' d d1 d2
      refine Tm_suc (fun k => by rw [y_X10_quotientDigit]) ?_
      refine Tm_yes (by rw [u_le (by decide) (by omega)]; show 4 ≤ _; omega) (b9 _ d1 d2)
    | succ m ih =>
      intro L' d d1 d2
      have b10 : Tm (fun k => y_X10_quotientDigit k 10 L' σ) (fun r => WF σ r.2) := by
        refine Tm_suc (fun k => by rw [y_X10_quotientDigit]) ?_
        refine ih _ ?_ ?_ ?_
        · show uN (L'.1 15 + 1) + m = 4
          rw [u_inc (by omega)]; omega
        · exact d1
        · exact d2
      refine Tm_suc (fun k => by rw [y_X10_quotientDigit]) ?_
      refine Tm_ite (fun _ => b9 _ d1 d2) (fun _ => ?_)
      refine Tm_ite (fun _ => b9 _ d1 d2) (fun _ => ?_)
      refine Tm_ite (fun _ => b10) (fun _ => ?_)
      exact Tm_ite (fun _ => b9 _ d1 d2) (fun _ => b10)
  have b7 : ∀ (L' : LV), L'.1 1 = L.1 1 → L'.1 2 = L.1 2 → 1 ≤ uN (L.1 2) → ¬ L'.2.1 3 = 0 → Tm (fun k => y_X10_quotientDigit k 7 L' σ) (fun r => WF σ r.2) := by
    intro L' d1 d2 p3 n3
    have e1 : uN (L.1 1 + L.1 2 - 1) = uN (L.1 1) + uN (L.1 2) - 1 := by
      rw [u_sub (by rw [e0]; show 1 ≤ _; omega), e0]; rfl
    refine Tm_suc (fun k => by rw [y_X10_quotientDigit]) ?_
    rw [d1, d2]
    refine Tm_chk (u_in (by omega) (by decide)) ?_
    refine Tm_chk (u_in (by omega) (by decide)) ?_
    refine Tm_chk0 n3 ?_
    refine b8 4 _ ?_ ?_ ?_
    · rfl
    · exact d1
    · exact d2
  have b5 : ∀ (L' : LV), L'.1 1 = L.1 1 → L'.1 2 = L.1 2 → 1 ≤ uN (L.1 2) → ¬ L'.2.1 3 = 0 → Tm (fun k => y_X10_quotientDigit k 5 L' σ) (fun r => WF σ r.2) := by
    intro L' d1 d2 p3 n3
    refine Tm_suc (fun k => by rw [y_X10_quotientDigit]) ?_
    rw [d1, d2]
    refine Tm_ite (fun _ => ?_) (fun c => ?_)
    · refine Tm_suc (fun k => by rw [y_X10_quotientDigit]) ?_
      refine b7 _ ?_ ?_ p3 ?_
      · exact d1
      · exact d2
      · exact n3
    · rw [u_le (by omega) (by decide)] at c
      have c' : 2 ≤ uN (L.1 2) := Nat.lt_of_not_le c
      have e1 : uN (L.1 1 + L.1 2 - 2) = uN (L.1 1) + uN (L.1 2) - 2 := by
        rw [u_sub (by rw [e0]; show 2 ≤ _; omega), e0]; rfl
      refine Tm_chk (u_in (by omega) (by decide)) ?_
      refine b7 _ ?_ ?_ p3 ?_
      · exact d1
      · exact d2
      · exact n3
  have b2 : ∀ (L' : LV), L'.1 1 = L.1 1 → L'.1 2 = L.1 2 → (¬ L'.2.1 100 = 0 → 1 ≤ uN (L.1 2)) → Tm (fun k => y_X10_quotientDigit k 2 L' σ) (fun r => WF σ r.2) := by
    intro L' d1 d2 p3
    refine Tm_suc (fun k => by rw [y_X10_quotientDigit]) ?_
    refine Tm_ite (fun _ => Tm_some (WF_r σ)) (fun c => ?_)
    have n3 := cmp0 c
    have p := p3 n3
    refine Tm_suc (fun k => by rw [y_X10_quotientDigit]) ?_
    refine Tm_ite (fun _ => ?_) (fun c => ?_)
    · refine Tm_suc (fun k => by rw [y_X10_quotientDigit]) ?_
      refine b5 _ ?_ ?_ p ?_
      · exact d1
      · exact d2
      · exact n3
    · have c' : ¬ L'.1 2 ≤ 1 := c
      rw [d2, u_le (by omega) (by decide)] at c'
      have c2 : 2 ≤ uN (L.1 2) := Nat.lt_of_not_le c'
      have e1 : uN (L'.1 2 - 2) = uN (L.1 2) - 2 := by
        rw [d2, u_sub (by show 2 ≤ _; omega)]; rfl
      refine Tm_chk (u_in (by show uN (L'.1 2 - 2) < 72; omega) (by decide)) ?_
      refine b5 _ ?_ ?_ p ?_
      · exact d1
      · exact d2
      · exact n3
  refine Tm_suc (fun k => by rw [y_X10_quotientDigit]) ?_
  refine Tm_ite (fun _ => ?_) (fun c => ?_)
  · refine Tm_suc (fun k => by rw [y_X10_quotientDigit]) ?_
    refine b2 _ rfl rfl (fun z => absurd rfl z)
  · rw [u_le (by omega) (by decide)] at c
    have c' : 1 ≤ uN (L.1 2) := Nat.lt_of_not_le c
    have e1 : uN (L.1 2 - 1) = uN (L.1 2) - 1 := by
      rw [u_sub (by show 1 ≤ _; omega)]; rfl
    refine Tm_chk (u_in (by omega) (by decide)) ?_
    exact b2 _ rfl rfl (fun _ => c')
end CRN
