/-! The class: division, digits of a text. -/
section CRO
variable {g g' g2 : Nat → Prop} {l l' : List Nat} {t t' t2 : Nat} {σ σ' σ2 : CS} {L : LV} {x y i : Int32} {M M' : Nat → Int32}
theorem u_subn {x y : Int32} (hx : uN x < uN y) (hy : uN y < 2147483648) : 2147483648 ≤ uN (x - y) := by
  show _ ≤ (x.toBitVec - y.toBitVec).toNat
  rw [BitVec.toNat_sub]
  show 2147483648 ≤ (2 ^ 32 - uN y + uN x) % 2 ^ 32
  omega
theorem c_divideLimbs (n1 : uN (L.1 1) ≤ 32) (m1 : uN (L.1 2) ≤ 32) : Tm (fun k => y_X10_divideLimbs k 0 L σ) (fun r => WF σ r.2) := by
  have en : uN (2 * L.1 1) = 2 * uN (L.1 1) := u_dbl (by omega)
  have em : uN (2 * L.1 2) = 2 * uN (L.1 2) := u_dbl (by omega)
  have en1 : uN (2 * L.1 1 + 1) = 2 * uN (L.1 1) + 1 := by rw [u_inc (by omega), en]
  have b11 : ∀ (m : Nat) (L' : LV) (σ' : CS), WF σ σ' → L'.1 1 = L.1 1 → uN (L'.1 6) + m = 2 * uN (L.1 1) + 1 → Tm (fun k => y_X10_divideLimbs k 11 L' σ') (fun r => WF σ r.2) := by
    intro m
    induction m with
    | zero =>
      intro L' σ' w a1 a6
      refine Tm_suc (fun k => by rw [y_X10_divideLimbs]) ?_
      refine Tm_yes (by rw [a1, u_le (by omega) (by omega)]; omega) ?_
      refine Tm_suc (fun k => by rw [y_X10_divideLimbs]) ?_
      exact Tm_some w
    | succ m ih =>
      intro L' σ' w a1 a6
      have b14 : ∀ L2 : LV, L2.1 1 = L.1 1 → L2.1 6 = L'.1 6 → Tm (fun k => y_X10_divideLimbs k 14 L2 σ') (fun r => WF σ r.2) := by
        intro L2 z1 z6
        refine Tm_suc (fun k => by rw [y_X10_divideLimbs]) ?_
        refine ih _ _ w ?_ ?_
        · exact z1
        · show uN (L2.1 6 + 1) + m = _
          rw [z6, u_inc (by omega)]; omega
      refine Tm_suc (fun k => by rw [y_X10_divideLimbs]) ?_
      refine Tm_ite (fun q => absurd q (by rw [a1, u_le (by omega) (by omega)]; omega)) (fun _ => ?_)
      refine Tm_chk (u_in (by omega) (by decide)) ?_
      refine Tm_ite (fun _ => ?_) (fun _ => b14 _ a1 rfl)
      refine Tm_suc (fun k => by rw [y_X10_divideLimbs]) ?_
      exact b14 _ a1 rfl
  have b10 : ∀ (L' : LV) (σ' : CS), WF σ σ' → L'.1 1 = L.1 1 → uN (L'.1 3) ≤ 64 → Tm (fun k => y_X10_divideLimbs k 10 L' σ') (fun r => WF σ r.2) := by
    intro L' σ' w a1 a3
    refine Tm_suc (fun k => by rw [y_X10_divideLimbs]) ?_
    refine Tm_oc (c_shiftDown (by show uN (L'.1 3) < 72; omega)) (fun r hr => ?_)
    refine b11 (2 * uN (L.1 1) + 1) _ _ (WF_t w hr) ?_ ?_
    · exact a1
    · show 0 + _ = _; omega
  have b9 : ∀ (m : Nat) (L' : LV) (σ' : CS), WF σ σ' → L'.1 1 = L.1 1 → uN (L'.1 3) ≤ 64 → (uN (L'.1 5) + 1 = m ∧ uN (L'.1 5) + uN (L'.1 3) ≤ 64 ∨ (2147483648 ≤ uN (L'.1 5) ∧ m = 0)) → Tm (fun k => y_X10_divideLimbs k 9 L' σ') (fun r => WF σ r.2) := by
    intro m
    induction m with
    | zero =>
      intro L' σ' w a1 a3 a5
      refine Tm_suc (fun k => by rw [y_X10_divideLimbs]) ?_
      exact Tm_yes (by rw [u_neg]; omega) (b10 _ _ w a1 a3)
    | succ m ih =>
      intro L' σ' w a1 a3 a5
      refine Tm_suc (fun k => by rw [y_X10_divideLimbs]) ?_
      refine Tm_ite (fun _ => b10 _ _ w a1 a3) (fun _ => ?_)
      refine Tm_oc (c_quotientDigit (by show uN (L'.1 5) + uN (L'.1 3) < 72; omega)) (fun r hr => ?_)
      refine Tm_chk (u_in (by omega) (by decide)) ?_
      refine ih _ _ (WF_t (WF_t w hr) (WF_A _ (by decide) _ _)) ?_ ?_ ?_
      · exact a1
      · exact a3
      · show uN (L'.1 5 + (-1)) + 1 = m ∧ uN (L'.1 5 + (-1)) + uN (L'.1 3) ≤ 64 ∨ (2147483648 ≤ uN (L'.1 5 + (-1)) ∧ m = 0)
        by_cases c : uN (L'.1 5) = 0
        · right
          rw [show L'.1 5 = 0 from by rw [u_eq, c]; rfl]
          exact ⟨by decide, by omega⟩
        · left
          rw [u_dec (by omega)]; omega
  have b8 : ∀ (L' : LV) (σ' : CS), WF σ σ' → L'.1 1 = L.1 1 → uN (L'.1 3) ≤ 64 → Tm (fun k => y_X10_divideLimbs k 8 L' σ') (fun r => WF σ r.2) := by
    intro L' σ' w a1 a3
    refine Tm_suc (fun k => by rw [y_X10_divideLimbs]) ?_
    rw [a1]
    refine Tm_oc (c_shiftUp8 (by show uN (2 * L.1 1 + 1) ≤ 72; omega)) (fun r1 h1 => ?_)
    refine Tm_oc (c_shiftUp9 (by show uN (L'.1 3) ≤ 72; omega)) (fun r2 h2 => ?_)
    by_cases c : uN (L'.1 3) ≤ 2 * uN (L.1 1)
    · have e : uN (2 * L.1 1 - L'.1 3) = 2 * uN (L.1 1) - uN (L'.1 3) := by rw [u_sub (by omega), en]
      refine b9 (2 * uN (L.1 1) - uN (L'.1 3) + 1) _ _ (WF_t (WF_t w h1) h2) ?_ ?_ ?_
      · exact a1
      · exact a3
      · left
        show uN (2 * L.1 1 - L'.1 3) + 1 = _ ∧ uN (2 * L.1 1 - L'.1 3) + uN (L'.1 3) ≤ 64
        omega
    · refine b9 0 _ _ (WF_t (WF_t w h1) h2) ?_ ?_ ?_
      · exact a1
      · exact a3
      · right
        exact ⟨u_subn (by omega) (by omega), rfl⟩
  have b7 : ∀ (m : Nat) (L' : LV) (σ' : CS), WF σ σ' → L'.1 1 = L.1 1 → uN (L'.1 3) ≤ 64 → uN (L'.1 5) + m = 15 → Tm (fun k => y_X10_divideLimbs k 7 L' σ') (fun r => WF σ r.2) := by
    intro m
    induction m with
    | zero =>
      intro L' σ' w a1 a3 a5
      refine Tm_suc (fun k => by rw [y_X10_divideLimbs]) ?_
      exact Tm_yes (by rw [u_le (by decide) (by omega)]; show 15 ≤ _; omega) (b8 _ _ w a1 a3)
    | succ m ih =>
      intro L' σ' w a1 a3 a5
      refine Tm_suc (fun k => by rw [y_X10_divideLimbs]) ?_
      refine Tm_ite (fun _ => b8 _ _ w a1 a3) (fun _ => ?_)
      refine Tm_ite (fun _ => b8 _ _ w a1 a3) (fun c => ?_)
      rw [u_le (by omega) (by decide)] at c
      have c' : 1 ≤ uN (L'.1 3) := Nat.lt_of_not_le c
      have e : uN (L'.1 3 - 1) = uN (L'.1 3) - 1 := by rw [u_sub (by show 1 ≤ _; omega)]; rfl
      refine Tm_chk (u_in (by omega) (by decide)) ?_
      refine Tm_ite (fun _ => ?_) (fun _ => b8 _ _ w a1 a3)
      refine ih _ _ w ?_ ?_ ?_
      · exact a1
      · exact a3
      · show uN (L'.1 5 + 1) + m = 15
        rw [u_inc (by omega)]; omega
  have b6 : ∀ (L' : LV) (σ' : CS), WF σ σ' → L'.1 1 = L.1 1 → uN (L'.1 3) ≤ 64 → Tm (fun k => y_X10_divideLimbs k 6 L' σ') (fun r => WF σ r.2) := by
    intro L' σ' w a1 a3
    refine Tm_suc (fun k => by rw [y_X10_divideLimbs]) ?_
    refine b7 15 _ _ w ?_ ?_ ?_
    · exact a1
    · exact a3
    · rfl
  have b5 : ∀ (L' : LV) (σ' : CS), WF σ σ' → L'.1 1 = L.1 1 → L'.1 2 = L.1 2 → Tm (fun k => y_X10_divideLimbs k 5 L' σ') (fun r => WF σ r.2) := by
    intro L' σ' w a1 a2
    refine Tm_suc (fun k => by rw [y_X10_divideLimbs]) ?_
    rw [a2]
    refine Tm_ite (fun _ => b6 _ _ w a1 (by show uN (2 * L.1 2) ≤ 64; omega)) (fun c => ?_)
    rw [u_le (by omega) (by decide)] at c
    have c' : 1 ≤ uN (2 * L.1 2) := Nat.lt_of_not_le c
    have e : uN (2 * L.1 2 - 1) = uN (2 * L.1 2) - 1 := by rw [u_sub (by show 1 ≤ _; omega)]; rfl
    refine Tm_chk (u_in (by omega) (by decide)) ?_
    refine Tm_ite (fun _ => b6 _ _ w a1 ?_) (fun _ => b6 _ _ w a1 ?_)
    · show uN (2 * L.1 2 + (-1)) ≤ 64
      rw [u_dec (by omega)]; omega
    · show uN (2 * L.1 2) ≤ 64
      omega
  have b4 : ∀ (m : Nat) (L' : LV) (σ' : CS), WF σ σ' → L'.1 1 = L.1 1 → L'.1 2 = L.1 2 → uN (L'.1 3) + m = uN (L.1 2) → Tm (fun k => y_X10_divideLimbs k 4 L' σ') (fun r => WF σ r.2) := by
    intro m
    induction m with
    | zero =>
      intro L' σ' w a1 a2 a3
      refine Tm_suc (fun k => by rw [y_X10_divideLimbs]) ?_
      exact Tm_yes (by rw [a2, u_le (by omega) (by omega)]; omega) (b5 _ _ w a1 a2)
    | succ m ih =>
      intro L' σ' w a1 a2 a3
      have e2 : uN (2 * L'.1 3) = 2 * uN (L'.1 3) := u_dbl (by omega)
      have e3 : uN (2 * L'.1 3 + 1) = 2 * uN (L'.1 3) + 1 := by rw [u_inc (by omega), e2]
      refine Tm_suc (fun k => by rw [y_X10_divideLimbs]) ?_
      refine Tm_ite (fun q => absurd q (by rw [a2, u_le (by omega) (by omega)]; omega)) (fun _ => ?_)
      refine Tm_chk (u_in (by omega) (by decide)) ?_
      refine Tm_chk (u_in (by omega) (by decide)) ?_
      refine Tm_chk (u_in (by omega) (by decide)) ?_
      refine Tm_chk (u_in (by omega) (by decide)) ?_
      refine ih _ _ (WF_t w (WF_t (WF_A _ (by decide) _ _) (WF_A _ (by decide) _ _))) ?_ ?_ ?_
      · exact a1
      · exact a2
      · show uN (L'.1 3 + 1) + m = _
        rw [u_inc (by omega)]; omega
  have b2 : ∀ (m : Nat) (L' : LV) (σ' : CS), WF σ σ' → L'.1 1 = L.1 1 → L'.1 2 = L.1 2 → uN (L'.1 3) + m = uN (L.1 1) → Tm (fun k => y_X10_divideLimbs k 2 L' σ') (fun r => WF σ r.2) := by
    intro m
    induction m with
    | zero =>
      intro L' σ' w a1 a2 a3
      refine Tm_suc (fun k => by rw [y_X10_divideLimbs]) ?_
      refine Tm_yes (by rw [a1, u_le (by omega) (by omega)]; omega) ?_
      refine Tm_suc (fun k => by rw [y_X10_divideLimbs]) ?_
      refine b4 (uN (L.1 2)) _ _ w ?_ ?_ ?_
      · exact a1
      · exact a2
      · show 0 + _ = _; omega
    | succ m ih =>
      intro L' σ' w a1 a2 a3
      have e2 : uN (2 * L'.1 3) = 2 * uN (L'.1 3) := u_dbl (by omega)
      have e3 : uN (2 * L'.1 3 + 1) = 2 * uN (L'.1 3) + 1 := by rw [u_inc (by omega), e2]
      refine Tm_suc (fun k => by rw [y_X10_divideLimbs]) ?_
      refine Tm_ite (fun q => absurd q (by rw [a1, u_le (by omega) (by omega)]; omega)) (fun _ => ?_)
      refine Tm_chk (u_in (by omega) (by decide)) ?_
      refine Tm_chk (u_in (by omega) (by decide)) ?_
      refine Tm_chk (u_in (by omega) (by decide)) ?_
      refine Tm_chk (u_in (by omega) (by decide)) ?_
      refine ih _ _ (WF_t w (WF_t (WF_A _ (by decide) _ _) (WF_A _ (by decide) _ _))) ?_ ?_ ?_
      · exact a1
      · exact a2
      · show uN (L'.1 3 + 1) + m = _
        rw [u_inc (by omega)]; omega
  refine Tm_suc (fun k => by rw [y_X10_divideLimbs]) ?_
  refine Tm_oc c_fill10 (fun r1 h1 => ?_)
  refine Tm_oc c_fill8 (fun r2 h2 => ?_)
  refine Tm_oc c_fill9 (fun r3 h3 => ?_)
  refine Tm_suc (fun k => by rw [y_X10_divideLimbs]) ?_
  refine b2 (uN (L.1 1)) _ _ (WF_t (WF_t h1 h2) h3) ?_ ?_ ?_
  · rfl
  · rfl
  · show 0 + _ = _; omega
theorem c_divided (h : HQ g l t σ) (hx : W2 g σ (L.1 1)) (hy : W2 g σ (L.1 2)) : Tm (fun k => y_X10_divided k 0 L σ) (Vx g t σ 2) := by
  have b10 : ∀ (L' : LV) (σ' : CS), WF σ σ' → uN (L'.1 101) ≤ 72 → Tm (fun k => y_X10_divided k 10 L' σ') (Vx g t σ 2) := by
    intro L' σ' w d
    refine Tm_suc (fun k => by rw [y_X10_divided]) ?_
    exact Tm_oc (c_made (HQ_W h w) d) (fun r hr => Tm_some (Vx_W h w hr))
  have b8 : ∀ (L' : LV) (σ' : CS), WF σ σ' → L'.1 2 = L.1 2 → uN (L'.1 9) ≤ 72 → Tm (fun k => y_X10_divided k 8 L' σ') (Vx g t σ 2) := by
    intro L' σ' w a2 d
    refine Tm_suc (fun k => by rw [y_X10_divided]) ?_
    refine Tm_oc (c_isBelow (HQ_W h w) (by show Gv g (L'.1 2); rw [a2]; exact hy.1)) (fun r1 h1 => ?_)
    have e1 : r1.2 = σ' := h1.1
    rw [e1]
    refine Tm_ite (fun _ => ?_) (fun _ => b10 _ _ w d)
    refine Tm_suc (fun k => by rw [y_X10_divided]) ?_
    exact b10 _ _ w d
  have b6 : ∀ (L' : LV) (σ' : CS), WF σ σ' → uN (L'.1 5) ≤ 32 → Tm (fun k => y_X10_divided k 6 L' σ') (Vx g t σ 2) := by
    intro L' σ' w d
    refine Tm_suc (fun k => by rw [y_X10_divided]) ?_
    exact Tm_oc (c_made (HQ_W h w) (by show uN (L'.1 5) ≤ 72; omega)) (fun r hr => Tm_some (Vx_W h w hr))
  have b7 : ∀ (L' : LV) (σ' : CS), WF σ σ' → L'.1 2 = L.1 2 → uN (L'.1 5) ≤ 32 → Tm (fun k => y_X10_divided k 7 L' σ') (Vx g t σ 2) := by
    intro L' σ' w a2 d
    refine Tm_suc (fun k => by rw [y_X10_divided]) ?_
    refine Tm_chk ⟨by decide, by decide, by rw [u_neg]; omega, by rw [u_cl (x := L'.1 5) (by omega)]; show 0 + _ ≤ 72; omega, by rw [u_cl (x := L'.1 5) (by omega)]; show 0 + _ ≤ 72; omega⟩ ?_
    have w1 := WF_t w (WF_F σ' (k := 5) (by decide) (va_cpy (σ'.2.2.1 7) (σ'.2.2.1 5) (0 : Int32).toNatClampNeg (0 : Int32).toNatClampNeg (L'.1 5).toNatClampNeg))
    have q : W2 g _ (L'.1 2) := W2_W w1 (by rw [a2]; exact hy)
    refine Tm_oc (c_load6 (HQ_W h w1) q.1 (fun c => W2_h q c)) (fun r2 h2 => ?_)
    refine Tm_oc (c_restLimbs (by show uN (L'.1 5) ≤ 72; omega)) (fun r3 h3 => ?_)
    have e3 : r3.2 = r2.2 := h3.1
    rw [e3]
    refine Tm_oc (c_takeLimbs6 (by show uN (L'.1 5) ≤ 72; omega) h3.2) (fun r4 h4 => ?_)
    have w4 := WF_t (WF_t w1 h2.1) h4.1
    refine Tm_oc (c_made (HQ_W h w4) (by show uN r4.1 ≤ 72; rw [h4.2]; show uN (L'.1 5) ≤ 72; omega)) (fun r hr => Tm_some (Vx_W h w4 hr))
  have b5 : ∀ (L' : LV) (σ' : CS), WF σ σ' → L'.1 2 = L.1 2 → uN (L'.1 4) ≤ 32 → Tm (fun k => y_X10_divided k 5 L' σ') (Vx g t σ 2) := by
    intro L' σ' w a2 d
    refine Tm_suc (fun k => by rw [y_X10_divided]) ?_
    refine Tm_oc (c_unpackQuotient (by show uN (L'.1 4) ≤ 36; omega)) (fun r1 h1 => ?_)
    have e1 : uN r1.1 ≤ 32 := by rw [h1.2]; exact d
    have w1 := WF_t w h1.1
    refine Tm_ite (fun _ => ?_) (fun _ => Tm_ite (fun _ => ?_) (fun _ => ?_))
    · exact b8 _ _ w1 a2 (by show uN r1.1 ≤ 72; omega)
    · refine Tm_oc (c_addOne (by show uN r1.1 < 72; omega)) (fun r4 h4 => ?_)
      exact b8 _ _ (WF_t w1 h4.1) a2 h4.2
    · exact b8 _ _ w1 a2 (by show uN r1.1 ≤ 72; omega)
  have b4 : ∀ (L' : LV) (σ' : CS), WF σ σ' → L'.1 2 = L.1 2 → uN (L'.1 4) ≤ 32 → uN (L'.1 5) ≤ 32 → Tm (fun k => y_X10_divided k 4 L' σ') (Vx g t σ 2) := by
    intro L' σ' w a2 d4 d5
    refine Tm_suc (fun k => by rw [y_X10_divided]) ?_
    refine Tm_ite (fun _ => b5 _ _ w a2 d4) (fun _ => ?_)
    refine Tm_oc (c_unpackRest (by show uN (L'.1 5) ≤ 36; omega)) (fun r1 h1 => ?_)
    have w1 := WF_t w h1.1
    refine Tm_ite (fun _ => b6 _ _ w1 d5) (fun _ => Tm_ite (fun _ => b7 _ _ w1 a2 d5) (fun _ => b6 _ _ w1 d5))
  have b2 : Tm (fun k => y_X10_divided k 2 L σ) (Vx g t σ 2) := by
    refine Tm_suc (fun k => by rw [y_X10_divided]) ?_
    refine Tm_oc (c_load5 h hx.1 (fun c => W2_h hx c)) (fun r1 h1 => ?_)
    have q1 := W2_W h1.1 hy
    refine Tm_oc (c_load6 (HQ_W h h1.1) q1.1 (fun c => W2_h q1 c)) (fun r2 h2 => ?_)
    have w2 := WF_t h1.1 h2.1
    refine Tm_oc (c_isBelow (HQ_W h w2) hx.1) (fun r3 h3 => ?_)
    have e3 : r3.2 = r2.2 := h3.1
    rw [e3]
    refine Tm_oc (c_divideLimbs h1.2 h2.2) (fun r4 h4 => ?_)
    have w4 := WF_t w2 h4
    refine Tm_ite (fun _ => ?_) (fun _ => ?_)
    · exact b4 _ _ w4 rfl h1.2 h2.2
    · refine Tm_suc (fun k => by rw [y_X10_divided]) ?_
      exact b4 _ _ w4 rfl h1.2 h2.2
  refine Tm_suc (fun k => by rw [y_X10_divided]) ?_
  refine Tm_ite (fun _ => Tm_some (Vx_raw h (WF_r σ) (by show 4026531840 ≤ uN (-268435454) ∧ ¬ uN (-268435454) % 16 = 0; decide))) (fun _ => ?_)
  refine Tm_suc (fun k => by rw [y_X10_divided]) ?_
  refine Tm_ite (fun _ => b2) (fun _ => Tm_ite (fun _ => b2) (fun _ => ?_))
  refine Tm_oc c_number (fun r1 h1 => ?_)
  have e1 : r1.2 = σ := h1
  rw [e1]
  refine Tm_oc c_number (fun r2 h2 => ?_)
  have e2 : r2.2 = σ := h2
  rw [e2]
  exact Tm_oc (c_dividedSmall h) (fun r hr => Tm_some hr)
theorem c_resultLimb (d : uN (σ.1 404) ≤ 72) : Tm (fun k => y_X10_resultLimb k 0 L σ) (Qs σ) := by
  have b2 : ∀ L' : LV, Tm (fun k => y_X10_resultLimb k 2 L' σ) (Qs σ) := by
    intro L'
    refine Tm_suc (fun k => by rw [y_X10_resultLimb]) ?_
    exact Tm_some rfl
  have b1 : ∀ L' : LV, Tm (fun k => y_X10_resultLimb k 1 L' σ) (Qs σ) := by
    intro L'
    refine Tm_suc (fun k => by rw [y_X10_resultLimb]) ?_
    exact b2 _
  refine Tm_suc (fun k => by rw [y_X10_resultLimb]) ?_
  refine Tm_ite (fun _ => b1 _) (fun c => Tm_ite (fun _ => b1 _) (fun c2 => ?_))
  rw [u_neg] at c
  rw [u_le (by omega) (by omega)] at c2
  refine Tm_chk (u_in (by omega) (by decide)) ?_
  exact b2 _
theorem c_readDigits (hn : sN σ 38 ≤ 2147483648) (hs : uN (L.1 2) ≤ uN (L.1 3)) (he : uN (L.1 3) < 2147483648) (he2 : uN (L.1 3) ≤ sN σ 38) : Tm (fun k => y_X10_readDigits__z38 k 0 L σ) (fun r => WF σ r.2 ∧ uN r.1 ≤ 32 ∧ r.2.1 404 = r.1) := by
  have b1 : ∀ (m : Nat) (L' : LV) (σ' : CS), WF σ σ' → L'.1 3 = L.1 3 → uN (L'.1 5) + m = uN (L.1 3) → uN (L'.1 4) ≤ 32 → Tm (fun k => y_X10_readDigits__z38 k 1 L' σ') (fun r => WF σ r.2 ∧ uN r.1 ≤ 32 ∧ r.2.1 404 = r.1) := by
    intro m
    induction m with
    | zero =>
      intro L' σ' w a3 a5 a4
      refine Tm_suc (fun k => by rw [y_X10_readDigits__z38]) ?_
      refine Tm_yes (by rw [a3, u_le (by omega) (by omega)]; omega) ?_
      refine Tm_suc (fun k => by rw [y_X10_readDigits__z38]) ?_
      refine Tm_some ⟨⟨fun j hj => ?_, w.2.1, w.2.2.1, w.2.2.2⟩, a4, rfl⟩
      show upd σ'.1 404 _ j = σ.1 j
      rw [upd_other hj]
      exact w.1 j hj
    | succ m ih =>
      intro L' σ' w a3 a5 a4
      have b5 : ∀ (L2 : LV) (σ2 : CS), WF σ σ2 → L2.1 3 = L.1 3 → L2.1 5 = L'.1 5 → uN (L2.1 4) ≤ 32 → Tm (fun k => y_X10_readDigits__z38 k 5 L2 σ2) (fun r => WF σ r.2 ∧ uN r.1 ≤ 32 ∧ r.2.1 404 = r.1) := by
        intro L2 σ2 w z3 z5 z4
        refine Tm_suc (fun k => by rw [y_X10_readDigits__z38]) ?_
        refine ih _ _ w ?_ ?_ ?_
        · exact z3
        · show uN (L2.1 5 + 1) + m = _
          rw [z5, u_inc (by omega)]; omega
        · exact z4
      have b3 : ∀ (d : Nat) (L2 : LV) (σ2 : CS), WF σ σ2 → L2.1 3 = L.1 3 → L2.1 5 = L'.1 5 → L2.1 4 = L'.1 4 → uN (L2.1 8) + d = uN (L'.1 4) → Tm (fun k => y_X10_readDigits__z38 k 3 L2 σ2) (fun r => WF σ r.2 ∧ uN r.1 ≤ 32 ∧ r.2.1 404 = r.1) := by
        intro d
        induction d with
        | zero =>
          intro L2 σ2 w z3 z5 z4 z8
          refine Tm_suc (fun k => by rw [y_X10_readDigits__z38]) ?_
          refine Tm_yes (by rw [z4, u_le (by omega) (by omega)]; omega) ?_
          refine Tm_suc (fun k => by rw [y_X10_readDigits__z38]) ?_
          refine Tm_ite (fun _ => b5 _ _ w z3 z5 (by rw [z4]; exact a4)) (fun _ => Tm_ite (fun _ => b5 _ _ w z3 z5 (by rw [z4]; exact a4)) (fun c => ?_))
          rw [z4, u_le (by decide) (by omega)] at c
          have c' : uN (L'.1 4) < 32 := Nat.lt_of_not_le c
          refine Tm_chk (u_in (by rw [z4]; omega) (by decide)) ?_
          refine b5 _ _ (WF_t w (WF_A _ (by decide) _ _)) ?_ ?_ ?_
          · exact z3
          · exact z5
          · show uN (L2.1 4 + 1) ≤ 32
            rw [z4, u_inc (by omega)]; omega
        | succ d jh =>
          intro L2 σ2 w z3 z5 z4 z8
          refine Tm_suc (fun k => by rw [y_X10_readDigits__z38]) ?_
          refine Tm_ite (fun q => absurd q (by rw [z4, u_le (by omega) (by omega)]; omega)) (fun _ => ?_)
          refine Tm_chk (u_in (by omega) (by decide)) ?_
          refine Tm_chk (u_in (by omega) (by decide)) ?_
          refine jh _ _ (WF_t w (WF_A _ (by decide) _ _)) ?_ ?_ ?_ ?_
          · exact z3
          · exact z5
          · exact z4
          · show uN (L2.1 8 + 1) + d = _
            rw [u_inc (by omega)]; omega
      have e38 : sN σ' 38 = sN σ 38 := by show σ'.2.2.2.2.1 38 = σ.2.2.2.2.1 38; rw [w.2.2.2]
      refine Tm_suc (fun k => by rw [y_X10_readDigits__z38]) ?_
      refine Tm_ite (fun q => absurd q (by rw [a3, u_le (by omega) (by omega)]; omega)) (fun _ => ?_)
      refine Tm_chk (u_in (by omega) (by omega)) ?_
      refine b3 (uN (L'.1 4)) _ _ w ?_ ?_ ?_ ?_
      · exact a3
      · rfl
      · rfl
      · show 0 + _ = _; omega
  refine Tm_suc (fun k => by rw [y_X10_readDigits__z38]) ?_
  refine b1 (uN (L.1 3) - uN (L.1 2)) _ σ (WF_r σ) rfl ?_ ?_
  · show uN (L.1 2) + _ = _; omega
  · show uN 0 ≤ 32; decide
end CRO
