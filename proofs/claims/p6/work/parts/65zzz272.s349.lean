/-! The class: sums, products, powers of wholes. -/
section CRM
variable {g g' g2 : Nat → Prop} {l l' : List Nat} {t t' t2 : Nat} {σ σ' σ2 : CS} {L : LV} {x y i : Int32} {M M' : Nat → Int32}
/-- a whole -/
def W2 (g : Nat → Prop) (σ : CS) (x : Int32) : Prop := Gv g x ∧ kdC (σ.2.2.1 3) x = 2
theorem W2_W (w : WF σ σ') (h : W2 g σ x) : W2 g σ' x := ⟨h.1, by rw [w.2.2.1 3 (by decide)]; exact h.2⟩
theorem W2_G (h : HQ g l t σ) (a : Gr g t σ g' l' t' σ') (q : W2 g σ x) : W2 g' σ' x := ⟨Gv_sg q.1 a.2.1, by rw [kdC_gr h a q.1]; exact q.2⟩
theorem W2_h (q : W2 g σ x) (c : uN x < 2147483648) : hdK (uN (σ.2.2.1 3 (uN x))) = 2 := by
  have z := q.2
  unfold kdC at z
  rw [if_pos c] at z
  exact z
theorem Vx_zero (h : HQ g l t σ) (w : WF σ σ') : Vx g t σ 2 (-1610612736, σ') := Vx_i h w (by decide) (by decide)
theorem Vx_raw (h : HQ g l t σ) (w : WF σ σ') {v : Int32} {kd : Nat} (hv : Rw v) : Vx g t σ kd (v, σ') := ⟨g, l, t, Gr_W h w, Or.inr hv⟩
theorem c_made (h : HQ g l t σ) (n1 : uN (L.1 1) ≤ 72) : Tm (fun k => y_X10_made k 0 L σ) (Vx g t σ 2) := by
  have b6 : ∀ (L' : LV) (σ' : CS), Vx g t σ 2 (L'.1 100, σ') → Tm (fun k => y_X10_made k 6 L' σ') (Vx g t σ 2) := by
    intro L' σ' d
    refine Tm_suc (fun k => by rw [y_X10_made]) ?_
    exact Tm_some d
  have b8 : ∀ (L' : LV) (σ' : CS), Vx g t σ 2 (L'.1 100, σ') → Tm (fun k => y_X10_made k 8 L' σ') (Vx g t σ 2) := by
    intro L' σ' d
    refine Tm_suc (fun k => by rw [y_X10_made]) ?_
    exact Tm_some d
  have b10 : ∀ (L' : LV), Tm (fun k => y_X10_made k 10 L' σ) (Vx g t σ 2) := by
    intro L'
    refine Tm_suc (fun k => by rw [y_X10_made]) ?_
    refine Tm_oc c_small (fun r hr => ?_)
    have e : r.2 = σ := hr.1
    rw [e]
    refine b8 _ _ ?_
    show Vx g t σ 2 (r.1, σ)
    exact Vx_i h (WF_r σ) ⟨by omega, by omega⟩ (by omega)
  have b2 : ∀ (L' : LV), uN (L'.1 3) ≤ 72 → Tm (fun k => y_X10_made k 2 L' σ) (Vx g t σ 2) := by
    intro L' d
    have b3 : ∀ (L' : LV), uN (L'.1 3) ≤ 72 → Tm (fun k => y_X10_made k 3 L' σ) (Vx g t σ 2) := by
      intro L' d
      refine Tm_suc (fun k => by rw [y_X10_made]) ?_
      refine Tm_ite (fun _ => b6 _ _ (Vx_zero h (WF_r σ))) (fun c => ?_)
      have c' : ¬ L'.1 3 = 0 := c
      rw [u_eq] at c'
      have c2 : ¬ uN (L'.1 3) = 0 := c'
      refine Tm_suc (fun k => by rw [y_X10_made]) ?_
      refine Tm_oc (c_makeWhole h ?_ ?_) (fun r hr => b6 _ _ ?_)
      · show 1 ≤ uN (L'.1 3); omega
      · show uN (L'.1 3) < _; omega
      · exact Vx_M hr
    have b4 : ∀ (L' : LV), Tm (fun k => y_X10_made k 4 L' σ) (Vx g t σ 2) := by
      intro L'
      refine Tm_suc (fun k => by rw [y_X10_made]) ?_
      refine Tm_ite (fun _ => b8 _ _ (Vx_zero h (WF_r σ))) (fun c => ?_)
      refine Tm_suc (fun k => by rw [y_X10_made]) ?_
      refine Tm_ite (fun _ => ?_) (fun _ => b10 _)
      refine Tm_suc (fun k => by rw [y_X10_made]) ?_
      exact b10 _
    refine Tm_suc (fun k => by rw [y_X10_made]) ?_
    refine Tm_chk (by decide) ?_
    refine Tm_ite (fun _ => b3 _ d) (fun _ => ?_)
    refine Tm_ite (fun _ => b3 _ d) (fun _ => ?_)
    refine Tm_ite (fun _ => b4 _) (fun _ => ?_)
    refine Tm_ite (fun _ => b3 _ d) (fun _ => ?_)
    exact Tm_ite (fun _ => b4 _) (fun _ => b3 _ d)
  have b1 : ∀ (m : Nat) (L' : LV), m ≤ 72 → uN (L'.1 4) = m → L'.1 3 = L'.1 4 → Tm (fun k => y_X10_made k 1 L' σ) (Vx g t σ 2) := by
    intro m
    induction m with
    | zero =>
      intro L' hm d4 d3
      refine Tm_suc (fun k => by rw [y_X10_made]) ?_
      refine Tm_yes (by rw [u_le (by omega) (by decide), d4]; exact Nat.zero_le _) (b2 _ (by rw [d3]; omega))
    | succ m ih =>
      intro L' hm d4 d3
      have e : uN (L'.1 4 - 1) = m := by
        rw [u_sub (by rw [d4]; show 1 ≤ _; omega), d4]; rfl
      refine Tm_suc (fun k => by rw [y_X10_made]) ?_
      refine Tm_ite (fun _ => b2 _ (by rw [d3]; omega)) (fun _ => ?_)
      refine Tm_chk (u_in (by omega) (by decide)) ?_
      refine Tm_ite (fun _ => ?_) (fun _ => b2 _ (by rw [d3]; omega))
      refine ih _ (by omega) ?_ ?_
      · show uN (L'.1 4 + (-1)) = m
        rw [u_dec (by omega)]; omega
      · show L'.1 4 - 1 = L'.1 4 + (-1)
        rw [u_eq, u_dec (by omega), e]; omega
  refine Tm_suc (fun k => by rw [y_X10_made]) ?_
  exact b1 (uN (L.1 1)) _ n1 rfl rfl
theorem c_added (h : HQ g l t σ) (hx : W2 g σ (L.1 1)) (hy : W2 g σ (L.1 2)) : Tm (fun k => y_X10_added k 0 L σ) (Vx g t σ 2) := by
  have b3 : ∀ (L' : LV), Tm (fun k => y_X10_added k 3 L' σ) (Vx g t σ 2) := by
    intro L'
    refine Tm_suc (fun k => by rw [y_X10_added]) ?_
    exact Tm_oc (c_of h) (fun r hr => Tm_some hr)
  have fin : ∀ (L' : LV) (σ' : CS) (n b : Int32), WF σ σ' → uN n ≤ 72 → Tm (fun k => y_X10_made k 0 (lI (lI lZ 1 n) 2 b) σ') (Vx g t σ 2) := by
    intro L' σ' n b w d
    exact Tm_mono (c_made (HQ_W h w) d) (fun r hr => Vx_W h w hr)
  have b5 : ∀ (L' : LV) (σ' : CS), WF σ σ' → uN (L'.1 4) ≤ 32 → uN (L'.1 5) ≤ 32 → Tm (fun k => y_X10_added k 5 L' σ') (Vx g t σ 2) := by
    intro L' σ' w d4 d5
    refine Tm_suc (fun k => by rw [y_X10_added]) ?_
    refine Tm_ite (fun _ => ?_) (fun _ => ?_)
    · refine Tm_oc (c_addLimbs (by show uN (L'.1 4) < 72; omega) (by show uN (L'.1 5) < 72; omega)) (fun r hr => ?_)
      exact Tm_oc (fin L' _ _ _ (WF_t w hr.1) hr.2.2) (fun r hr => Tm_some hr)
    · refine Tm_suc (fun k => by rw [y_X10_added]) ?_
      refine Tm_oc (c_compareLimbs (by show uN (L'.1 4) ≤ 72; omega)) (fun r hr => ?_)
      have e : r.2 = σ' := hr
      rw [e]
      refine Tm_ite (fun _ => Tm_some (Vx_zero h w)) (fun _ => ?_)
      refine Tm_suc (fun k => by rw [y_X10_added]) ?_
      refine Tm_ite (fun _ => ?_) (fun _ => ?_)
      · refine Tm_suc (fun k => by rw [y_X10_added]) ?_
        refine Tm_oc (c_takeLimbs6 (by show uN (L'.1 5) ≤ 72; omega) (by show uN (L'.1 4) ≤ 72; omega)) (fun r hr => ?_)
        refine Tm_oc (fin L' _ _ _ (WF_t w hr.1) ?_) (fun r hr => Tm_some hr)
        rw [hr.2]; show uN (L'.1 5) ≤ 72; omega
      · refine Tm_oc (c_takeLimbs5 (by show uN (L'.1 4) ≤ 72; omega) (by show uN (L'.1 5) ≤ 72; omega)) (fun r hr => ?_)
        refine Tm_oc (fin L' _ _ _ (WF_t w hr.1) ?_) (fun r hr => Tm_some hr)
        rw [hr.2]; show uN (L'.1 4) ≤ 72; omega
  have b1 : ∀ (L' : LV), L'.1 1 = L.1 1 → L'.1 2 = L.1 2 → Tm (fun k => y_X10_added k 1 L' σ) (Vx g t σ 2) := by
    intro L' a1 a2
    have hx' : W2 g σ (L'.1 1) := by rw [a1]; exact hx
    have hy' : W2 g σ (L'.1 2) := by rw [a2]; exact hy
    refine Tm_suc (fun k => by rw [y_X10_added]) ?_
    refine Tm_oc (c_load5 h hx'.1 (fun c => W2_h hx' c)) (fun r1 h1 => ?_)
    have q1 := W2_W h1.1 hy'
    refine Tm_oc (c_load6 (HQ_W h h1.1) q1.1 (fun c => W2_h q1 c)) (fun r2 h2 => ?_)
    have w2 := WF_t h1.1 h2.1
    refine Tm_oc (c_isBelow (HQ_W h w2) hx'.1) (fun r3 h3 => ?_)
    have e3 : r3.2 = r2.2 := h3.1
    rw [e3]
    refine Tm_oc (c_isBelow (HQ_W h w2) hy'.1) (fun r4 h4 => ?_)
    have e4 : r4.2 = r2.2 := h4.1
    rw [e4]
    refine Tm_ite (fun _ => ?_) (fun _ => ?_)
    · refine Tm_suc (fun k => by rw [y_X10_added]) ?_
      exact b5 _ _ w2 h1.2 h2.2
    · exact b5 _ _ w2 h1.2 h2.2
  refine Tm_suc (fun k => by rw [y_X10_added]) ?_
  refine Tm_ite (fun _ => b1 _ rfl rfl) (fun _ => Tm_ite (fun _ => b1 _ rfl rfl) (fun _ => Tm_ite (fun _ => ?_) (fun _ => b3 _)))
  refine Tm_suc (fun k => by rw [y_X10_added]) ?_
  exact b3 _
theorem c_number : Tm (fun k => y_X10_number k 0 L σ) (Qs σ) := by
  refine Tm_suc (fun k => by rw [y_X10_number]) ?_
  exact Tm_some rfl
theorem c_clamped (h : HQ g l t σ) (hx : Gv g (L.1 1)) : Tm (fun k => y_X10_clamped k 0 L σ) (Qs σ) := by
  have b3 : ∀ L' : LV, Tm (fun k => y_X10_clamped k 3 L' σ) (Qs σ) := by
    intro L'
    refine Tm_suc (fun k => by rw [y_X10_clamped]) ?_
    exact Tm_some rfl
  refine Tm_suc (fun k => by rw [y_X10_clamped]) ?_
  refine Tm_ite (fun c => ?_) (fun _ => Tm_some rfl)
  rw [u_nn] at c
  refine Tm_suc (fun k => by rw [y_X10_clamped]) ?_
  refine Tm_chk (in_g h hx c) ?_
  refine Tm_ite (fun _ => ?_) (fun _ => b3 _)
  refine Tm_suc (fun k => by rw [y_X10_clamped]) ?_
  exact b3 _
theorem c_negated (h : HQ g l t σ) (hx : W2 g σ (L.1 1)) : Tm (fun k => y_X10_negated k 0 L σ) (Vx g t σ 2) := by
  have b2 : ∀ (L' : LV) (σ' : CS), WF σ σ' → uN (L'.1 101) ≤ 72 → Tm (fun k => y_X10_negated k 2 L' σ') (Vx g t σ 2) := by
    intro L' σ' w d
    refine Tm_suc (fun k => by rw [y_X10_negated]) ?_
    exact Tm_oc (c_made (HQ_W h w) d) (fun r hr => Tm_some (Vx_W h w hr))
  refine Tm_suc (fun k => by rw [y_X10_negated]) ?_
  refine Tm_oc (c_load7 h hx.1 (fun c => W2_h hx c)) (fun r1 h1 => ?_)
  refine Tm_oc (c_isBelow (HQ_W h h1.1) hx.1) (fun r2 h2 => ?_)
  have e2 : r2.2 = r1.2 := h2.1
  rw [e2]
  refine Tm_ite (fun _ => ?_) (fun _ => ?_)
  · exact b2 _ _ h1.1 (by show uN r1.1 ≤ 72; omega)
  · refine Tm_suc (fun k => by rw [y_X10_negated]) ?_
    exact b2 _ _ h1.1 (by show uN r1.1 ≤ 72; omega)
theorem c_absolute (h : HQ g l t σ) (hx : W2 g σ (L.1 1)) : Tm (fun k => y_X10_absolute k 0 L σ) (Vx g t σ 2) := by
  have b2 : ∀ (L' : LV) (σ' : CS), Vx g t σ 2 (L'.1 100, σ') → Tm (fun k => y_X10_absolute k 2 L' σ') (Vx g t σ 2) := by
    intro L' σ' d
    refine Tm_suc (fun k => by rw [y_X10_absolute]) ?_
    exact Tm_some d
  refine Tm_suc (fun k => by rw [y_X10_absolute]) ?_
  refine Tm_oc (c_isBelow h hx.1) (fun r1 h1 => ?_)
  have e1 : r1.2 = σ := h1.1
  rw [e1]
  refine Tm_ite (fun _ => ?_) (fun _ => ?_)
  · refine Tm_suc (fun k => by rw [y_X10_absolute]) ?_
    exact b2 _ _ ⟨g, l, t, Gr_W h (WF_r σ), Or.inl hx⟩
  · exact Tm_oc (c_negated h hx) (fun r hr => b2 _ _ hr)
theorem c_isError : Tm (fun k => y_X11_isError k 0 L σ) (fun r => (r.2 = σ ∧ (r.1 = 0 ∨ r.1 = 1)) ∧ ((r.1 = 0 → ¬ Rw (L.1 0)) ∧ (r.1 = 0 ↔ ¬ Rr (L.1 0)))) := by
  have q := u_lt (L.1 0)
  have eF : uN (-268435456) = 4026531840 := rfl
  refine Tm_suc (fun k => by rw [y_X11_isError]) ?_
  rw [u_tag]
  refine Tm_ite (fun c => ?_) (fun c => ?_)
  · rw [u_eq, u_n (by omega)] at c
    refine Tm_suc (fun k => by rw [y_X11_isError]) ?_
    refine Tm_chk (Or.inr rfl) ?_
    refine Tm_some ⟨⟨rfl, Or.inr rfl⟩, ?_⟩
    show ((1 : Int32) = 0 → _) ∧ ((1 : Int32) = 0 ↔ ¬ 4026531840 ≤ uN (L.1 0))
    exact ⟨fun z => absurd z (by decide), fun z => absurd z (by decide), fun z => absurd (by omega) z⟩
  · rw [u_eq, u_n (by omega)] at c
    refine Tm_suc (fun k => by rw [y_X11_isError]) ?_
    refine Tm_suc (fun k => by rw [y_X11_isError]) ?_
    refine Tm_chk (Or.inl rfl) ?_
    refine Tm_some ⟨⟨rfl, Or.inl rfl⟩, ?_⟩
    show ((0 : Int32) = 0 → _) ∧ ((0 : Int32) = 0 ↔ ¬ 4026531840 ≤ uN (L.1 0))
    exact ⟨fun _ h => by have z : 4026531840 ≤ uN (L.1 0) := h.1; omega, fun _ => by omega, fun _ => rfl⟩
theorem c_product (h : HQ g l t σ) (hx : W2 g σ (L.1 1)) (hy : W2 g σ (L.1 2)) : Tm (fun k => y_X10_product k 0 L σ) (Vx g t σ 2) := by
  have b6 : ∀ (L' : LV) (σ' : CS), Vx g t σ 2 (L'.1 100, σ') → Tm (fun k => y_X10_product k 6 L' σ') (Vx g t σ 2) := by
    intro L' σ' d
    refine Tm_suc (fun k => by rw [y_X10_product]) ?_
    exact Tm_some d
  have b12 : ∀ (L' : LV) (σ' : CS), WF σ σ' → uN (L'.1 101) ≤ 72 → Tm (fun k => y_X10_product k 12 L' σ') (Vx g t σ 2) := by
    intro L' σ' w d
    refine Tm_suc (fun k => by rw [y_X10_product]) ?_
    exact Tm_oc (c_made (HQ_W h w) d) (fun r hr => Tm_some (Vx_W h w hr))
  have b9 : ∀ (n m : Nat), n + m ≤ 33 → ∀ (L' : LV) (σ' : CS), WF σ σ' → L'.1 1 = L.1 1 → L'.1 2 = L.1 2 → uN (L'.1 3) = n → uN (L'.1 4) = m → Tm (fun k => y_X10_product k 9 L' σ') (Vx g t σ 2) := by
    intro n m nm L' σ' w a1 a2 a3 a4
    have e : uN (L'.1 3 + L'.1 4) = n + m := by rw [u_add (by omega), a3, a4]
    refine Tm_suc (fun k => by rw [y_X10_product]) ?_
    refine Tm_oc (c_isBelow (HQ_W h w) (by show Gv g (L'.1 1); rw [a1]; exact hx.1)) (fun r1 h1 => ?_)
    have e1 : r1.2 = σ' := h1.1
    rw [e1]
    refine Tm_oc (c_isBelow (HQ_W h w) (by show Gv g (L'.1 2); rw [a2]; exact hy.1)) (fun r2 h2 => ?_)
    have e2 : r2.2 = σ' := h2.1
    rw [e2]
    refine Tm_ite (fun _ => ?_) (fun _ => ?_)
    · refine Tm_suc (fun k => by rw [y_X10_product]) ?_
      exact b12 _ _ w (by show uN (L'.1 3 + L'.1 4) ≤ 72; omega)
    · exact b12 _ _ w (by show uN (L'.1 3 + L'.1 4) ≤ 72; omega)
  have b8 : ∀ (n m : Nat), n + m ≤ 33 → ∀ (c : Nat) (L' : LV) (σ' : CS), WF σ σ' → L'.1 1 = L.1 1 → L'.1 2 = L.1 2 → uN (L'.1 3) = n → uN (L'.1 4) = m → uN (L'.1 5) + c = n → Tm (fun k => y_X10_product k 8 L' σ') (Vx g t σ 2) := by
    intro n m nm c
    induction c with
    | zero =>
      intro L' σ' w a1 a2 a3 a4 a5
      refine Tm_suc (fun k => by rw [y_X10_product]) ?_
      exact Tm_yes (by rw [u_le (by omega) (by omega)]; omega) (b9 n m nm _ _ w a1 a2 a3 a4)
    | succ c ih =>
      intro L' σ' w a1 a2 a3 a4 a5
      have b10 : ∀ (d : Nat) (L2 : LV) (σ2 : CS), WF σ σ2 → L2.1 1 = L.1 1 → L2.1 2 = L.1 2 → uN (L2.1 3) = n → uN (L2.1 4) = m → L2.1 5 = L'.1 5 → uN (L2.1 10) + d = m → Tm (fun k => y_X10_product k 10 L2 σ2) (Vx g t σ 2) := by
        intro d
        induction d with
        | zero =>
          intro L2 σ2 w z1 z2 z3 z4 z5 z10
          refine Tm_suc (fun k => by rw [y_X10_product]) ?_
          refine Tm_yes (by rw [u_le (by omega) (by omega)]; omega) ?_
          refine Tm_suc (fun k => by rw [y_X10_product]) ?_
          have e : uN (L2.1 5 + L2.1 4) = uN (L'.1 5) + m := by rw [z5, u_add (by omega), z4]
          refine Tm_chk (u_in (by omega) (by decide)) ?_
          refine ih _ _ (WF_t w (WF_A _ (by decide) _ _)) ?_ ?_ ?_ ?_ ?_
          · exact z1
          · exact z2
          · exact z3
          · exact z4
          · show uN (L2.1 5 + 1) + c = n
            rw [z5, u_inc (by omega)]; omega
        | succ d jh =>
          intro L2 σ2 w z1 z2 z3 z4 z5 z10
          have e : uN (L2.1 5 + L2.1 10) = uN (L'.1 5) + uN (L2.1 10) := by rw [z5, u_add (by omega)]
          refine Tm_suc (fun k => by rw [y_X10_product]) ?_
          refine Tm_ite (fun q => absurd q (by rw [u_le (by omega) (by omega)]; omega)) (fun _ => ?_)
          refine Tm_chk (u_in (by omega) (by decide)) ?_
          refine Tm_chk (u_in (by omega) (by decide)) ?_
          refine Tm_chk (u_in (by omega) (by decide)) ?_
          refine jh _ _ (WF_t w (WF_A _ (by decide) _ _)) ?_ ?_ ?_ ?_ ?_ ?_
          · exact z1
          · exact z2
          · exact z3
          · exact z4
          · exact z5
          · show uN (L2.1 10 + 1) + d = m
            rw [u_inc (by omega)]; omega
      refine Tm_suc (fun k => by rw [y_X10_product]) ?_
      refine Tm_ite (fun q => absurd q (by rw [u_le (by omega) (by omega)]; omega)) (fun _ => ?_)
      refine Tm_chk (u_in (by omega) (by decide)) ?_
      refine b10 m _ _ w ?_ ?_ ?_ ?_ ?_ ?_
      · exact a1
      · exact a2
      · exact a3
      · exact a4
      · rfl
      · show 0 + m = m; omega
  have b5 : ∀ (n m : Nat), n + m ≤ 33 → ∀ (c : Nat) (L' : LV) (σ' : CS), WF σ σ' → L'.1 1 = L.1 1 → L'.1 2 = L.1 2 → uN (L'.1 3) = n → uN (L'.1 4) = m → uN (L'.1 5) + c = n + m → Tm (fun k => y_X10_product k 5 L' σ') (Vx g t σ 2) := by
    intro n m nm c
    induction c with
    | zero =>
      intro L' σ' w a1 a2 a3 a4 a5
      have e : uN (L'.1 3 + L'.1 4) = n + m := by rw [u_add (by omega), a3, a4]
      refine Tm_suc (fun k => by rw [y_X10_product]) ?_
      refine Tm_yes (by rw [u_le (by omega) (by omega)]; omega) ?_
      refine Tm_suc (fun k => by rw [y_X10_product]) ?_
      refine b8 n m nm n _ _ w ?_ ?_ ?_ ?_ ?_
      · exact a1
      · exact a2
      · exact a3
      · exact a4
      · show 0 + n = n; omega
    | succ c ih =>
      intro L' σ' w a1 a2 a3 a4 a5
      have e : uN (L'.1 3 + L'.1 4) = n + m := by rw [u_add (by omega), a3, a4]
      refine Tm_suc (fun k => by rw [y_X10_product]) ?_
      refine Tm_ite (fun q => absurd q (by rw [u_le (by omega) (by omega)]; omega)) (fun _ => ?_)
      refine Tm_chk (u_in (by omega) (by decide)) ?_
      refine ih _ _ (WF_t w (WF_A _ (by decide) _ _)) ?_ ?_ ?_ ?_ ?_
      · exact a1
      · exact a2
      · exact a3
      · exact a4
      · show uN (L'.1 5 + 1) + c = n + m
        rw [u_inc (by omega)]; omega
  have b1 : ∀ (L' : LV), L'.1 1 = L.1 1 → L'.1 2 = L.1 2 → Tm (fun k => y_X10_product k 1 L' σ) (Vx g t σ 2) := by
    intro L' a1 a2
    have hx' : W2 g σ (L'.1 1) := by rw [a1]; exact hx
    have hy' : W2 g σ (L'.1 2) := by rw [a2]; exact hy
    refine Tm_suc (fun k => by rw [y_X10_product]) ?_
    refine Tm_oc (c_load5 h hx'.1 (fun c => W2_h hx' c)) (fun r1 h1 => ?_)
    have q1 := W2_W h1.1 hy'
    refine Tm_oc (c_load6 (HQ_W h h1.1) q1.1 (fun c => W2_h q1 c)) (fun r2 h2 => ?_)
    have w2 := WF_t h1.1 h2.1
    have z : ∀ L2 : LV, Tm (fun k => y_X10_product k 3 L2 r2.2) (Vx g t σ 2) := by
      intro L2
      refine Tm_suc (fun k => by rw [y_X10_product]) ?_
      exact b6 _ _ (Vx_zero h w2)
    have l1 := h1.2
    have l2 := h2.2
    refine Tm_ite (fun c => ?_) (fun _ => Tm_ite (fun _ => z _) (fun _ => Tm_ite (fun _ => z _) (fun _ => ?_)))
    · rw [u_le (by rw [u_add (by omega)]; omega) (by decide), u_add (by omega)] at c
      have c' : uN r1.1 + uN r2.1 ≤ 33 := c
      refine Tm_suc (fun k => by rw [y_X10_product]) ?_
      refine b5 (uN r1.1) (uN r2.1) c' (uN r1.1 + uN r2.1) _ _ w2 ?_ ?_ ?_ ?_ ?_
      · exact a1
      · exact a2
      · rfl
      · rfl
      · show 0 + _ = _; omega
    · refine Tm_suc (fun k => by rw [y_X10_product]) ?_
      exact b6 _ _ (Vx_raw h w2 (by show 4026531840 ≤ uN (-268435451) ∧ ¬ uN (-268435451) % 16 = 0; decide))
  refine Tm_suc (fun k => by rw [y_X10_product]) ?_
  refine Tm_ite (fun _ => b1 _ rfl rfl) (fun _ => Tm_ite (fun _ => b1 _ rfl rfl) (fun _ => ?_))
  exact Tm_oc (c_of h) (fun r hr => Tm_some hr)
end CRM
