section JnS348
/-! The class: wholes. -/
section CRL
variable {g g' g2 : Nat → Prop} {l l' : List Nat} {t t' t2 : Nat} {σ σ' σ2 : CS} {L : LV} {x y i : Int32} {M M' : Nat → Int32}
/-- what work on wholes may write -/
def WF (σ σ' : CS) : Prop := (∀ j, ¬ j = 404 → σ'.1 j = σ.1 j) ∧ σ'.2.1 = σ.2.1 ∧ (∀ k, ¬ (5 ≤ k ∧ k ≤ 11) → σ'.2.2.1 k = σ.2.2.1 k) ∧ σ'.2.2.2 = σ.2.2.2
theorem WF_r (σ : CS) : WF σ σ := ⟨fun _ _ => rfl, rfl, fun _ _ => rfl, rfl⟩
theorem WF_t (a : WF σ σ') (b : WF σ' σ2) : WF σ σ2 := ⟨fun j hj => (b.1 j hj).trans (a.1 j hj), b.2.1.trans a.2.1, fun k hk => (b.2.2.1 k hk).trans (a.2.2.1 k hk), b.2.2.2.trans a.2.2.2⟩
theorem WF_F (σ : CS) {k : Nat} (hk : 5 ≤ k ∧ k ≤ 11) (f : Nat → Int32) : WF σ (uF σ k f) := ⟨fun _ _ => rfl, rfl, fun j hj => if_neg (fun e => hj (by rw [e]; exact hk)), rfl⟩
theorem WF_A (σ : CS) {k : Nat} (hk : 5 ≤ k ∧ k ≤ 11) (i : Nat) (x : Int32) : WF σ (uA σ k i x) := WF_F σ hk _
theorem HQ_W (h : HQ g l t σ) (w : WF σ σ') : HQ g l t σ' := HQ_fr h (w.1 1 (by decide)) (w.2.2.1 3 (by decide)) (by rw [w.2.2.2])
/-- what work on values may write besides its own rows -/
def VWc (σ σ' : CS) : Prop := (∀ j, ¬ (j = 1 ∨ j = 404) → σ'.1 j = σ.1 j) ∧ σ'.2.1 = σ.2.1 ∧ (∀ k, ¬ (k = 3 ∨ (5 ≤ k ∧ k ≤ 11)) → σ'.2.2.1 k = σ.2.2.1 k) ∧ σ'.2.2.2 = σ.2.2.2
theorem VWc_t (a : VWc σ σ') (b : VWc σ' σ2) : VWc σ σ2 := ⟨fun j hj => (b.1 j hj).trans (a.1 j hj), b.2.1.trans a.2.1, fun k hk => (b.2.2.1 k hk).trans (a.2.2.1 k hk), b.2.2.2.trans a.2.2.2⟩
theorem VWc_W (w : WF σ σ') : VWc σ σ' := ⟨fun j hj => w.1 j (fun e => hj (Or.inr e)), w.2.1, fun k hk => w.2.2.1 k (fun e => hk (Or.inr e)), w.2.2.2⟩
theorem VWc_h (σ : CS) (t : Nat) (M : Nat → Int32) : VWc σ (hpC σ t M) := ⟨fun j hj => upd_other (fun e => hj (Or.inl e)), rfl, fun k hk => if_neg (fun e => hk (Or.inl e)), rfl⟩
/-- the heap grows -/
def Gr (g : Nat → Prop) (t : Nat) (σ : CS) (g' : Nat → Prop) (l' : List Nat) (t' : Nat) (σ' : CS) : Prop := HQ g' l' t' σ' ∧ (∀ p, g p → g' p) ∧ (∀ p, p < t → σ'.2.2.1 3 p = σ.2.2.1 3 p) ∧ t ≤ t' ∧ VWc σ σ'
theorem Gr_t {l2 : List Nat} (a : Gr g t σ g' l' t' σ') (b : Gr g' t' σ' g2 l2 t2 σ2) : Gr g t σ g2 l2 t2 σ2 := by
  have q := a.2.2.2.1
  exact ⟨b.1, fun p hp => b.2.1 p (a.2.1 p hp), fun p hp => (b.2.2.1 p (by omega)).trans (a.2.2.1 p hp), Nat.le_trans a.2.2.2.1 b.2.2.2.1, VWc_t a.2.2.2.2 b.2.2.2.2⟩
theorem Gr_W (h : HQ g l t σ) (w : WF σ σ') : Gr g t σ g l t σ' := ⟨HQ_W h w, fun _ z => z, fun p _ => by rw [w.2.2.1 3 (by decide)], Nat.le_refl _, VWc_W w⟩
/-- what work on values answers -/
def Vx (g : Nat → Prop) (t : Nat) (σ : CS) (kd : Nat) (r : Int32 × CS) : Prop := ∃ (g' : Nat → Prop) (l' : List Nat) (t' : Nat), Gr g t σ g' l' t' r.2 ∧ ((Gv g' r.1 ∧ kdC (r.2.2.2.1 3) r.1 = kd) ∨ Rw r.1)
theorem Vx_M {r : Int32 × CS} {kd : Nat} (m : Mk g t σ kd r) : Vx g t σ kd r := by
  obtain ⟨g', l', t', M', e, h, a, b, c, d⟩ := m
  refine ⟨g', l', t', ⟨h, a, ?_, c, ?_⟩, ?_⟩
  · rw [e]; exact b
  · rw [e]; exact VWc_h _ _ _
  · rw [e]; exact d
theorem Vx_t {r : Int32 × CS} {kd : Nat} (a : Gr g t σ g' l' t' σ') (b : Vx g' t' σ' kd r) : Vx g t σ kd r := by
  obtain ⟨g2, l2, t2, q, z⟩ := b
  exact ⟨g2, l2, t2, Gr_t a q, z⟩
theorem Vx_W {r : Int32 × CS} {kd : Nat} (h : HQ g l t σ) (w : WF σ σ') (b : Vx g t σ' kd r) : Vx g t σ kd r := Vx_t (Gr_W h w) b
theorem Vx_i (h : HQ g l t σ) (w : WF σ σ') {v : Int32} {kd : Nat} (hv : 2147483648 ≤ uN v ∧ uN v < 3489660928) (hk : uN v / 268435456 % 8 = kd) : Vx g t σ kd (v, σ') := by
  refine ⟨g, l, t, Gr_W h w, Or.inl ⟨Or.inl ⟨hv.1, Or.inl hv.2⟩, ?_⟩⟩
  show kdC _ v = kd
  unfold kdC
  rw [if_neg (by omega)]
  exact hk
/-- a value in a heap that grew -/
theorem kdC_gr (h : HQ g l t σ) (a : Gr g t σ g' l' t' σ') (hx : Gv g x) : kdC (σ'.2.2.1 3) x = kdC (σ.2.2.1 3) x := by
  unfold kdC
  split
  · rename_i c
    rw [a.2.2.1 _ (HQ_c h (Gv_c hx c).2).1]
  · rfl
theorem u_small (x : Int32) : uN (-1610612736 ||| (x &&& 268435455)) = 2684354560 + uN x % 268435456 := by
  rw [u_orB (k := 28) (a := 10) (by rw [u_and28, u_n (by omega)]; omega) (by decide), u_and28, u_n (by omega)]; rfl
theorem c_small : Tm (fun k => y_X10_small k 0 L σ) (fun r => r.2 = σ ∧ (2684354560 ≤ uN r.1 ∧ uN r.1 < 2952790016)) := by
  refine Tm_suc (fun k => by rw [y_X10_small]) ?_
  refine Tm_some ⟨rfl, ?_⟩
  show 2684354560 ≤ uN (-1610612736 ||| (L.1 0 &&& 268435455)) ∧ uN (-1610612736 ||| (L.1 0 &&& 268435455)) < 2952790016
  rw [u_small]
  omega
theorem c_of (h : HQ g l t σ) : Tm (fun k => y_X10_of k 0 L σ) (Vx g t σ 2) := by
  have b7 : ∀ (L' : LV) (σ' : CS), WF σ σ' → (1 ≤ uN (L'.1 101) ∧ uN (L'.1 101) ≤ 2) → Tm (fun k => y_X10_of k 7 L' σ') (Vx g t σ 2) := by
    intro L' σ' w d
    refine Tm_suc (fun k => by rw [y_X10_of]) ?_
    exact Tm_oc (c_makeWhole (HQ_W h w) d.1 (by show uN (L'.1 101) < _; omega)) (fun r hr => Tm_some (Vx_W h w (Vx_M hr)))
  have b5 : ∀ (L' : LV) (σ' : CS), WF σ σ' → (1 ≤ uN (L'.1 100) ∧ uN (L'.1 100) ≤ 2) → Tm (fun k => y_X10_of k 5 L' σ') (Vx g t σ 2) := by
    intro L' σ' w d
    refine Tm_suc (fun k => by rw [y_X10_of]) ?_
    refine Tm_ite (fun _ => ?_) (fun _ => ?_)
    · refine Tm_suc (fun k => by rw [y_X10_of]) ?_
      exact b7 _ _ w d
    · exact b7 _ _ w d
  have b3 : ∀ L' : LV, Tm (fun k => y_X10_of k 3 L' σ) (Vx g t σ 2) := by
    intro L'
    refine Tm_suc (fun k => by rw [y_X10_of]) ?_
    refine Tm_chk (by decide) ?_
    refine Tm_chk (by decide) ?_
    refine Tm_chk (by decide) ?_
    refine Tm_ite (fun _ => ?_) (fun _ => ?_)
    · exact b5 _ _ (WF_t (WF_A σ (by decide) _ _) (WF_A _ (by decide) _ _)) ⟨by show 1 ≤ uN 1; decide, by show uN 1 ≤ 2; decide⟩
    · refine Tm_suc (fun k => by rw [y_X10_of]) ?_
      exact b5 _ _ (WF_t (WF_A σ (by decide) _ _) (WF_A _ (by decide) _ _)) ⟨by show 1 ≤ uN 2; decide, by show uN 2 ≤ 2; decide⟩
  have b1 : ∀ L' : LV, Tm (fun k => y_X10_of k 1 L' σ) (Vx g t σ 2) := by
    intro L'
    refine Tm_suc (fun k => by rw [y_X10_of]) ?_
    refine Tm_ite (fun _ => ?_) (fun _ => ?_)
    · refine Tm_suc (fun k => by rw [y_X10_of]) ?_
      exact b3 _
    · exact b3 _
  refine Tm_suc (fun k => by rw [y_X10_of]) ?_
  refine Tm_ite (fun _ => b1 _) (fun _ => Tm_ite (fun _ => b1 _) (fun _ => ?_))
  refine Tm_oc c_small (fun r hr => Tm_some ?_)
  have e : r.2 = σ := hr.1
  rw [e]
  exact Vx_i h (WF_r σ) ⟨by omega, by omega⟩ (by omega)
theorem c_isBelow (h : HQ g l t σ) (hx : Gv g (L.1 1)) : Tm (fun k => y_X10_isBelow k 0 L σ) (fun r => r.2 = σ ∧ (r.1 = 0 ∨ r.1 = 1)) := by
  have b3 : ∀ L' : LV, (L'.1 100 = 0 ∨ L'.1 100 = 1) → Tm (fun k => y_X10_isBelow k 3 L' σ) (fun r => r.2 = σ ∧ (r.1 = 0 ∨ r.1 = 1)) := by
    intro L' d
    refine Tm_suc (fun k => by rw [y_X10_isBelow]) ?_
    refine Tm_chk d ?_
    exact Tm_some ⟨rfl, d⟩
  refine Tm_suc (fun k => by rw [y_X10_isBelow]) ?_
  refine Tm_ite (fun c => ?_) (fun _ => Tm_ite (fun _ => ?_) (fun _ => b3 _ (Or.inr rfl)))
  · rw [u_nn] at c
    refine Tm_suc (fun k => by rw [y_X10_isBelow]) ?_
    refine Tm_chk (in_g h hx c) ?_
    refine Tm_ite (fun _ => ?_) (fun _ => b3 _ (Or.inr rfl))
    refine Tm_suc (fun k => by rw [y_X10_isBelow]) ?_
    exact b3 _ (Or.inl rfl)
  · refine Tm_suc (fun k => by rw [y_X10_isBelow]) ?_
    exact b3 _ (Or.inl rfl)
theorem c_load5 (h : HQ g l t σ) (hx : Gv g (L.1 1)) (hk : uN (L.1 1) < 2147483648 → hdK (uN (σ.2.2.1 3 (uN (L.1 1)))) = 2) : Tm (fun k => y_X10_load__a5 k 0 L σ) (fun r => WF σ r.2 ∧ uN r.1 ≤ 32) := by
  have b3 : ∀ L' : LV, L'.1 101 = 0 → Tm (fun k => y_X10_load__a5 k 3 L' σ) (fun r => WF σ r.2 ∧ uN r.1 ≤ 32) := by
    intro L' d
    refine Tm_suc (fun k => by rw [y_X10_load__a5]) ?_
    rw [d]
    refine Tm_chk (by decide) ?_
    refine Tm_ite (fun _ => ?_) (fun _ => ?_)
    · refine Tm_suc (fun k => by rw [y_X10_load__a5]) ?_
      exact Tm_some ⟨WF_A σ (by decide) _ _, by show uN 0 ≤ 32; decide⟩
    · refine Tm_suc (fun k => by rw [y_X10_load__a5]) ?_
      refine Tm_suc (fun k => by rw [y_X10_load__a5]) ?_
      exact Tm_some ⟨WF_A σ (by decide) _ _, by show uN 1 ≤ 32; decide⟩
  refine Tm_suc (fun k => by rw [y_X10_load__a5]) ?_
  refine Tm_ite (fun c => ?_) (fun c => Tm_ite (fun _ => ?_) (fun _ => b3 _ rfl))
  · rw [u_nn] at c
    have cc := Gv_c hx c
    have cg := HQ_c h cc.2
    have k2 := hk c
    have n2 := cg.2.2.2.2.2.2.2.2.1 k2
    have w : hdW (uN (σ.2.2.1 3 (uN (L.1 1)))) = hdL (uN (σ.2.2.1 3 (uN (L.1 1)))) := by
      unfold hdK at k2; unfold hdW; rw [if_neg (by omega)]
    have en : uN (nI (hdL (uN (σ.2.2.1 3 (uN (L.1 1)))))) = hdL (uN (σ.2.2.1 3 (uN (L.1 1)))) := u_n (by omega)
    have e1 : uN (L.1 1 + 1) = uN (L.1 1) + 1 := u_inc (by omega)
    refine Tm_suc (fun k => by rw [y_X10_load__a5]) ?_
    refine Tm_chk (in_g h hx c) ?_
    rw [u_cl c, e_len]
    refine Tm_chk ⟨by rw [u_neg]; omega, by decide, by rw [u_neg]; omega, by rw [u_cl (by omega), u_cl (by omega), e1, en]; omega, by rw [show (nI (hdL (uN (σ.2.2.1 3 (uN (L.1 1)))))).toNatClampNeg = hdL (uN (σ.2.2.1 3 (uN (L.1 1)))) from (u_cl (by omega)).trans en]; show 0 + _ ≤ 72; omega⟩ ?_
    refine Tm_some ⟨WF_F σ (by decide) _, ?_⟩
    show uN (nI _) ≤ 32
    omega
  · refine Tm_suc (fun k => by rw [y_X10_load__a5]) ?_
    exact b3 _ rfl
theorem c_load6 (h : HQ g l t σ) (hx : Gv g (L.1 1)) (hk : uN (L.1 1) < 2147483648 → hdK (uN (σ.2.2.1 3 (uN (L.1 1)))) = 2) : Tm (fun k => y_X10_load__a6 k 0 L σ) (fun r => WF σ r.2 ∧ uN r.1 ≤ 32) := by
  have b3 : ∀ L' : LV, L'.1 101 = 0 → Tm (fun k => y_X10_load__a6 k 3 L' σ) (fun r => WF σ r.2 ∧ uN r.1 ≤ 32) := by
    intro L' d
    refine Tm_suc (fun k => by rw [y_X10_load__a6]) ?_
    rw [d]
    refine Tm_chk (by decide) ?_
    refine Tm_ite (fun _ => ?_) (fun _ => ?_)
    · refine Tm_suc (fun k => by rw [y_X10_load__a6]) ?_
      exact Tm_some ⟨WF_A σ (by decide) _ _, by show uN 0 ≤ 32; decide⟩
    · refine Tm_suc (fun k => by rw [y_X10_load__a6]) ?_
      refine Tm_suc (fun k => by rw [y_X10_load__a6]) ?_
      exact Tm_some ⟨WF_A σ (by decide) _ _, by show uN 1 ≤ 32; decide⟩
  refine Tm_suc (fun k => by rw [y_X10_load__a6]) ?_
  refine Tm_ite (fun c => ?_) (fun c => Tm_ite (fun _ => ?_) (fun _ => b3 _ rfl))
  · rw [u_nn] at c
    have cc := Gv_c hx c
    have cg := HQ_c h cc.2
    have k2 := hk c
    have n2 := cg.2.2.2.2.2.2.2.2.1 k2
    have w : hdW (uN (σ.2.2.1 3 (uN (L.1 1)))) = hdL (uN (σ.2.2.1 3 (uN (L.1 1)))) := by
      unfold hdK at k2; unfold hdW; rw [if_neg (by omega)]
    have en : uN (nI (hdL (uN (σ.2.2.1 3 (uN (L.1 1)))))) = hdL (uN (σ.2.2.1 3 (uN (L.1 1)))) := u_n (by omega)
    have e1 : uN (L.1 1 + 1) = uN (L.1 1) + 1 := u_inc (by omega)
    refine Tm_suc (fun k => by rw [y_X10_load__a6]) ?_
    refine Tm_chk (in_g h hx c) ?_
    rw [u_cl c, e_len]
    refine Tm_chk ⟨by rw [u_neg]; omega, by decide, by rw [u_neg]; omega, by rw [u_cl (by omega), u_cl (by omega), e1, en]; omega, by rw [show (nI (hdL (uN (σ.2.2.1 3 (uN (L.1 1)))))).toNatClampNeg = hdL (uN (σ.2.2.1 3 (uN (L.1 1)))) from (u_cl (by omega)).trans en]; show 0 + _ ≤ 72; omega⟩ ?_
    refine Tm_some ⟨WF_F σ (by decide) _, ?_⟩
    show uN (nI _) ≤ 32
    omega
  · refine Tm_suc (fun k => by rw [y_X10_load__a6]) ?_
    exact b3 _ rfl
theorem c_load7 (h : HQ g l t σ) (hx : Gv g (L.1 1)) (hk : uN (L.1 1) < 2147483648 → hdK (uN (σ.2.2.1 3 (uN (L.1 1)))) = 2) : Tm (fun k => y_X10_load__a7 k 0 L σ) (fun r => WF σ r.2 ∧ uN r.1 ≤ 32) := by
  have b3 : ∀ L' : LV, L'.1 101 = 0 → Tm (fun k => y_X10_load__a7 k 3 L' σ) (fun r => WF σ r.2 ∧ uN r.1 ≤ 32) := by
    intro L' d
    refine Tm_suc (fun k => by rw [y_X10_load__a7]) ?_
    rw [d]
    refine Tm_chk (by decide) ?_
    refine Tm_ite (fun _ => ?_) (fun _ => ?_)
    · refine Tm_suc (fun k => by rw [y_X10_load__a7]) ?_
      exact Tm_some ⟨WF_A σ (by decide) _ _, by show uN 0 ≤ 32; decide⟩
    · refine Tm_suc (fun k => by rw [y_X10_load__a7]) ?_
      refine Tm_suc (fun k => by rw [y_X10_load__a7]) ?_
      exact Tm_some ⟨WF_A σ (by decide) _ _, by show uN 1 ≤ 32; decide⟩
  refine Tm_suc (fun k => by rw [y_X10_load__a7]) ?_
  refine Tm_ite (fun c => ?_) (fun c => Tm_ite (fun _ => ?_) (fun _ => b3 _ rfl))
  · rw [u_nn] at c
    have cc := Gv_c hx c
    have cg := HQ_c h cc.2
    have k2 := hk c
    have n2 := cg.2.2.2.2.2.2.2.2.1 k2
    have w : hdW (uN (σ.2.2.1 3 (uN (L.1 1)))) = hdL (uN (σ.2.2.1 3 (uN (L.1 1)))) := by
      unfold hdK at k2; unfold hdW; rw [if_neg (by omega)]
    have en : uN (nI (hdL (uN (σ.2.2.1 3 (uN (L.1 1)))))) = hdL (uN (σ.2.2.1 3 (uN (L.1 1)))) := u_n (by omega)
    have e1 : uN (L.1 1 + 1) = uN (L.1 1) + 1 := u_inc (by omega)
    refine Tm_suc (fun k => by rw [y_X10_load__a7]) ?_
    refine Tm_chk (in_g h hx c) ?_
    rw [u_cl c, e_len]
    refine Tm_chk ⟨by rw [u_neg]; omega, by decide, by rw [u_neg]; omega, by rw [u_cl (by omega), u_cl (by omega), e1, en]; omega, by rw [show (nI (hdL (uN (σ.2.2.1 3 (uN (L.1 1)))))).toNatClampNeg = hdL (uN (σ.2.2.1 3 (uN (L.1 1)))) from (u_cl (by omega)).trans en]; show 0 + _ ≤ 72; omega⟩ ?_
    refine Tm_some ⟨WF_F σ (by decide) _, ?_⟩
    show uN (nI _) ≤ 32
    omega
  · refine Tm_suc (fun k => by rw [y_X10_load__a7]) ?_
    exact b3 _ rfl
theorem al_1 {n : Nat} (n1 : n < 72) : ∀ (m : Nat) (L : LV) (σ : CS), uN (L.1 6) + m = n → uN (L.1 3) = n → Tm (fun k => y_X10_addLimbs k 1 L σ) (fun r => WF σ r.2 ∧ uN r.1 = n + 1) := by
  intro m
  induction m with
  | zero =>
    intro L σ d6 d3
    refine Tm_suc (fun k => by rw [y_X10_addLimbs]) ?_
    refine Tm_yes (by rw [u_le (by omega) (by omega)]; omega) ?_
    refine Tm_suc (fun k => by rw [y_X10_addLimbs]) ?_
    refine Tm_chk (u_in (by omega) (by decide)) ?_
    refine Tm_some ⟨WF_A σ (by decide) _ _, ?_⟩
    show uN (L.1 3 + 1) = n + 1
    rw [u_inc (by omega), d3]
  | succ m ih =>
    intro L σ d6 d3
    have b6 : ∀ L' : LV, L'.1 3 = L.1 3 → L'.1 6 = L.1 6 → Tm (fun k => y_X10_addLimbs k 6 L' σ) (fun r => WF σ r.2 ∧ uN r.1 = n + 1) := by
      intro L' a3 a6
      refine Tm_suc (fun k => by rw [y_X10_addLimbs]) ?_
      refine Tm_chk (u_in (by rw [a6]; omega) (by decide)) ?_
      refine Tm_mono (ih _ _ ?_ ?_) (fun r hr => ⟨WF_t (WF_A σ (by decide) _ _) hr.1, hr.2⟩)
      · show uN (L'.1 6 + 1) + m = n
        rw [a6, u_inc (by omega)]; omega
      · show uN (L'.1 3) = n; rw [a3]; exact d3
    have b4 : ∀ L' : LV, L'.1 3 = L.1 3 → L'.1 6 = L.1 6 → Tm (fun k => y_X10_addLimbs k 4 L' σ) (fun r => WF σ r.2 ∧ uN r.1 = n + 1) := by
      intro L' a3 a6
      refine Tm_suc (fun k => by rw [y_X10_addLimbs]) ?_
      refine Tm_ite (fun _ => ?_) (fun _ => ?_)
      · refine Tm_suc (fun k => by rw [y_X10_addLimbs]) ?_
        exact b6 _ a3 a6
      · refine Tm_chk (u_in (by rw [a6]; omega) (by decide)) ?_
        exact b6 _ a3 a6
    refine Tm_suc (fun k => by rw [y_X10_addLimbs]) ?_
    refine Tm_ite (fun c => absurd c (by rw [u_le (by omega) (by omega)]; omega)) (fun _ => ?_)
    refine Tm_ite (fun _ => ?_) (fun _ => ?_)
    · refine Tm_suc (fun k => by rw [y_X10_addLimbs]) ?_
      exact b4 _ rfl rfl
    · refine Tm_chk (u_in (by omega) (by decide)) ?_
      exact b4 _ rfl rfl
theorem c_addLimbs (n1 : uN (L.1 1) < 72) (m1 : uN (L.1 2) < 72) : Tm (fun k => y_X10_addLimbs k 0 L σ) (fun r => WF σ r.2 ∧ 1 ≤ uN r.1 ∧ uN r.1 ≤ 72) := by
  have e : uN (if L.1 1 < L.1 2 then L.1 2 else L.1 1) < 72 := by split <;> assumption
  refine Tm_suc (fun k => by rw [y_X10_addLimbs]) ?_
  refine Tm_mono (al_1 e (uN (if L.1 1 < L.1 2 then L.1 2 else L.1 1)) _ σ (by show 0 + _ = _; omega) rfl) (fun r hr => ⟨hr.1, by omega, by omega⟩)
theorem c_cmp : Tm (fun k => y_J6_compare_7cf53 k 0 L σ) (Qs σ) := by
  have b : ∀ L' : LV, Tm (fun k => y_J6_compare_7cf53 k 2 L' σ) (Qs σ) := by
    intro L'
    refine Tm_suc (fun k => by rw [y_J6_compare_7cf53]) ?_
    exact Tm_some rfl
  refine Tm_suc (fun k => by rw [y_J6_compare_7cf53]) ?_
  refine Tm_ite (fun _ => ?_) (fun _ => b _)
  refine Tm_suc (fun k => by rw [y_J6_compare_7cf53]) ?_
  refine Tm_ite (fun _ => b _) (fun _ => ?_)
  refine Tm_suc (fun k => by rw [y_J6_compare_7cf53]) ?_
  exact b _
theorem cl_1 : ∀ (m : Nat) (L : LV), (uN (L.1 4) + 1 = m ∨ (2147483648 ≤ uN (L.1 4) ∧ m = 0)) → m ≤ 72 → Tm (fun k => y_X10_compareLimbs k 1 L σ) (Qs σ) := by
  have b2 : ∀ L' : LV, Tm (fun k => y_X10_compareLimbs k 2 L' σ) (Qs σ) := by
    intro L'
    refine Tm_suc (fun k => by rw [y_X10_compareLimbs]) ?_
    exact Tm_some rfl
  intro m
  induction m with
  | zero =>
    intro L d hm
    refine Tm_suc (fun k => by rw [y_X10_compareLimbs]) ?_
    exact Tm_yes (by rw [u_neg]; omega) (b2 _)
  | succ m ih =>
    intro L d hm
    refine Tm_suc (fun k => by rw [y_X10_compareLimbs]) ?_
    refine Tm_ite (fun _ => b2 _) (fun _ => Tm_ite (fun _ => ?_) (fun _ => b2 _))
    refine Tm_chk (u_in (by omega) (by decide)) ?_
    refine Tm_chk (u_in (by omega) (by decide)) ?_
    refine Tm_oc c_cmp (fun r hr => ?_)
    have e : r.2 = σ := hr
    rw [e]
    refine ih _ ?_ (by omega)
    show uN (L.1 4 + (-1)) + 1 = m ∨ (2147483648 ≤ uN (L.1 4 + (-1)) ∧ m = 0)
    by_cases c : uN (L.1 4) = 0
    · right
      rw [show L.1 4 = 0 from by rw [u_eq, c]; rfl]
      exact ⟨by decide, by omega⟩
    · left
      rw [u_dec (by omega)]; omega
theorem c_compareLimbs (n1 : uN (L.1 1) ≤ 72) : Tm (fun k => y_X10_compareLimbs k 0 L σ) (Qs σ) := by
  refine Tm_suc (fun k => by rw [y_X10_compareLimbs]) ?_
  refine Tm_oc c_cmp (fun r hr => ?_)
  have e : r.2 = σ := hr
  rw [e]
  refine cl_1 (uN (L.1 1)) _ ?_ n1
  show uN (L.1 1 - 1) + 1 = uN (L.1 1) ∨ (2147483648 ≤ uN (L.1 1 - 1) ∧ uN (L.1 1) = 0)
  by_cases c : uN (L.1 1) = 0
  · right
    rw [show L.1 1 = 0 from by rw [u_eq, c]; rfl]
    exact ⟨by decide, by decide⟩
  · left
    rw [u_sub (by show 1 ≤ _; omega)]
    show uN (L.1 1) - 1 + 1 = _
    omega
theorem tl5_1 {n : Nat} (n1 : n ≤ 72) : ∀ (m : Nat) (L : LV) (σ : CS), uN (L.1 7) + m = n → uN (L.1 2) = n → uN (L.1 4) ≤ 72 → Tm (fun k => y_X10_takeLimbs__a5__a6 k 1 L σ) (fun r => WF σ r.2 ∧ r.1 = L.1 2) := by
  intro m
  induction m with
  | zero =>
    intro L σ d7 d2 d4
    refine Tm_suc (fun k => by rw [y_X10_takeLimbs__a5__a6]) ?_
    refine Tm_yes (by rw [u_le (by omega) (by omega)]; omega) ?_
    refine Tm_suc (fun k => by rw [y_X10_takeLimbs__a5__a6]) ?_
    exact Tm_some ⟨WF_r σ, rfl⟩
  | succ m ih =>
    intro L σ d7 d2 d4
    have lp : ∀ (L' : LV), L'.1 2 = L.1 2 → L'.1 4 = L.1 4 → L'.1 7 = L.1 7 → ∀ x, Tm (fun k => y_X10_takeLimbs__a5__a6 k 1 (lI (lJ L' 5 x) 7 (L'.1 7 + 1)) (uA σ 7 (L'.1 7).toNatClampNeg ((L'.2.1 101 - L'.2.1 100).toInt32))) (fun r => WF σ r.2 ∧ r.1 = L.1 2) := by
      intro L' a2 a4 a7 x
      refine Tm_mono (ih _ _ ?_ ?_ ?_) (fun r hr => ⟨WF_t (WF_A σ (by decide) _ _) hr.1, hr.2.trans a2⟩)
      · show uN (L'.1 7 + 1) + m = n
        rw [a7, u_inc (by omega)]; omega
      · show uN (L'.1 2) = n; rw [a2]; exact d2
      · show uN (L'.1 4) ≤ 72; rw [a4]; exact d4
    have b4 : ∀ (L' : LV), L'.1 2 = L.1 2 → L'.1 4 = L.1 4 → L'.1 7 = L.1 7 → Tm (fun k => y_X10_takeLimbs__a5__a6 k 4 L' σ) (fun r => WF σ r.2 ∧ r.1 = L.1 2) := by
      intro L' a2 a4 a7
      refine Tm_suc (fun k => by rw [y_X10_takeLimbs__a5__a6]) ?_
      refine Tm_chk (u_in (by rw [a7]; omega) (by decide)) ?_
      exact lp L' a2 a4 a7 _
    refine Tm_suc (fun k => by rw [y_X10_takeLimbs__a5__a6]) ?_
    refine Tm_ite (fun c => absurd c (by rw [u_le (by omega) (by omega)]; omega)) (fun _ => ?_)
    refine Tm_chk (u_in (by omega) (by decide)) ?_
    refine Tm_ite (fun _ => ?_) (fun _ => ?_)
    · refine Tm_suc (fun k => by rw [y_X10_takeLimbs__a5__a6]) ?_
      exact b4 _ rfl rfl rfl
    · refine Tm_chk (u_in (by omega) (by decide)) ?_
      exact b4 _ rfl rfl rfl
theorem c_takeLimbs5 (n1 : uN (L.1 2) ≤ 72) (m1 : uN (L.1 4) ≤ 72) : Tm (fun k => y_X10_takeLimbs__a5__a6 k 0 L σ) (fun r => WF σ r.2 ∧ r.1 = L.1 2) := by
  refine Tm_suc (fun k => by rw [y_X10_takeLimbs__a5__a6]) ?_
  exact tl5_1 n1 (uN (L.1 2)) _ σ (by show 0 + _ = _; omega) rfl m1
theorem tl6_1 {n : Nat} (n1 : n ≤ 72) : ∀ (m : Nat) (L : LV) (σ : CS), uN (L.1 7) + m = n → uN (L.1 2) = n → uN (L.1 4) ≤ 72 → Tm (fun k => y_X10_takeLimbs__a6__a5 k 1 L σ) (fun r => WF σ r.2 ∧ r.1 = L.1 2) := by
  intro m
  induction m with
  | zero =>
    intro L σ d7 d2 d4
    refine Tm_suc (fun k => by rw [y_X10_takeLimbs__a6__a5]) ?_
    refine Tm_yes (by rw [u_le (by omega) (by omega)]; omega) ?_
    refine Tm_suc (fun k => by rw [y_X10_takeLimbs__a6__a5]) ?_
    exact Tm_some ⟨WF_r σ, rfl⟩
  | succ m ih =>
    intro L σ d7 d2 d4
    have lp : ∀ (L' : LV), L'.1 2 = L.1 2 → L'.1 4 = L.1 4 → L'.1 7 = L.1 7 → ∀ x, Tm (fun k => y_X10_takeLimbs__a6__a5 k 1 (lI (lJ L' 5 x) 7 (L'.1 7 + 1)) (uA σ 7 (L'.1 7).toNatClampNeg ((L'.2.1 101 - L'.2.1 100).toInt32))) (fun r => WF σ r.2 ∧ r.1 = L.1 2) := by
      intro L' a2 a4 a7 x
      refine Tm_mono (ih _ _ ?_ ?_ ?_) (fun r hr => ⟨WF_t (WF_A σ (by decide) _ _) hr.1, hr.2.trans a2⟩)
      · show uN (L'.1 7 + 1) + m = n
        rw [a7, u_inc (by omega)]; omega
      · show uN (L'.1 2) = n; rw [a2]; exact d2
      · show uN (L'.1 4) ≤ 72; rw [a4]; exact d4
    have b4 : ∀ (L' : LV), L'.1 2 = L.1 2 → L'.1 4 = L.1 4 → L'.1 7 = L.1 7 → Tm (fun k => y_X10_takeLimbs__a6__a5 k 4 L' σ) (fun r => WF σ r.2 ∧ r.1 = L.1 2) := by
      intro L' a2 a4 a7
      refine Tm_suc (fun k => by rw [y_X10_takeLimbs__a6__a5]) ?_
      refine Tm_chk (u_in (by rw [a7]; omega) (by decide)) ?_
      exact lp L' a2 a4 a7 _
    refine Tm_suc (fun k => by rw [y_X10_takeLimbs__a6__a5]) ?_
    refine Tm_ite (fun c => absurd c (by rw [u_le (by omega) (by omega)]; omega)) (fun _ => ?_)
    refine Tm_chk (u_in (by omega) (by decide)) ?_
    refine Tm_ite (fun _ => ?_) (fun _ => ?_)
    · refine Tm_suc (fun k => by rw [y_X10_takeLimbs__a6__a5]) ?_
      exact b4 _ rfl rfl rfl
    · refine Tm_chk (u_in (by omega) (by decide)) ?_
      exact b4 _ rfl rfl rfl
theorem c_takeLimbs6 (n1 : uN (L.1 2) ≤ 72) (m1 : uN (L.1 4) ≤ 72) : Tm (fun k => y_X10_takeLimbs__a6__a5 k 0 L σ) (fun r => WF σ r.2 ∧ r.1 = L.1 2) := by
  refine Tm_suc (fun k => by rw [y_X10_takeLimbs__a6__a5]) ?_
  exact tl6_1 n1 (uN (L.1 2)) _ σ (by show 0 + _ = _; omega) rfl m1
end CRL
end JnS348
section JnS349
/-! The class: sums, products, powers of wholes. -/
section CRM
variable {g g' g2 : Nat → Prop} {l l' : List Nat} {t t' t2 : Nat} {σ σ' σ2 : CS} {L : LV} {x y i : Int32} {M M' : Nat → Int32}
/-- a whole -/
def W2 (g : Nat → Prop) (σ : CS) (x : Int32) : Prop := Gv g x ∧ kdC (σ.2.2.1 3) x = 2
theorem W2_W (w : WF σ σ') (h : W2 g σ x) : W2 g σ' x := ⟨h.1, by rw [w.2.2.1 3 (by decide)]; exact h.2⟩
theorem W2_G (h : HQ g l t σ) (a : Gr g t σ g' l' t' σ') (q : W2 g σ x) : W2 g' σ' x := ⟨Gv_sg q.1 a.2.1, by rw [kdC_gr h a q.1]; exact q.2⟩
theorem W2_h (q : W2 g σ x) (c : uN x < 2147483648) : hdK (uN (σ.2.2.1 3 (uN x))) = 2 := by
  have z := q.2
  unfold kdC at z
  rw [if_pos c] at z
  exact z
theorem Vx_zero (h : HQ g l t σ) (w : WF σ σ') : Vx g t σ 2 (-1610612736, σ') := Vx_i h w (by decide) (by decide)
theorem Vx_raw (h : HQ g l t σ) (w : WF σ σ') {v : Int32} {kd : Nat} (hv : Rw v) : Vx g t σ kd (v, σ') := ⟨g, l, t, Gr_W h w, Or.inr hv⟩
theorem c_made (h : HQ g l t σ) (n1 : uN (L.1 1) ≤ 72) : Tm (fun k => y_X10_made k 0 L σ) (Vx g t σ 2) := by
  have b6 : ∀ (L' : LV) (σ' : CS), Vx g t σ 2 (L'.1 100, σ') → Tm (fun k => y_X10_made k 6 L' σ') (Vx g t σ 2) := by
    intro L' σ' d
    refine Tm_suc (fun k => by rw [y_X10_made]) ?_
    exact Tm_some d
  have b8 : ∀ (L' : LV) (σ' : CS), Vx g t σ 2 (L'.1 100, σ') → Tm (fun k => y_X10_made k 8 L' σ') (Vx g t σ 2) := by
    intro L' σ' d
    refine Tm_suc (fun k => by rw [y_X10_made]) ?_
    exact Tm_some d
  have b10 : ∀ (L' : LV), Tm (fun k => y_X10_made k 10 L' σ) (Vx g t σ 2) := by
    intro L'
    refine Tm_suc (fun k => by rw [y_X10_made]) ?_
    refine Tm_oc c_small (fun r hr => ?_)
    have e : r.2 = σ := hr.1
    rw [e]
    refine b8 _ _ ?_
    show Vx g t σ 2 (r.1, σ)
    exact Vx_i h (WF_r σ) ⟨by omega, by omega⟩ (by omega)
  have b2 : ∀ (L' : LV), uN (L'.1 3) ≤ 72 → Tm (fun k => y_X10_made k 2 L' σ) (Vx g t σ 2) := by
    intro L' d
    have b3 : ∀ (L' : LV), uN (L'.1 3) ≤ 72 → Tm (fun k => y_X10_made k 3 L' σ) (Vx g t σ 2) := by
      intro L' d
      refine Tm_suc (fun k => by rw [y_X10_made]) ?_
      refine Tm_ite (fun _ => b6 _ _ (Vx_zero h (WF_r σ))) (fun c => ?_)
      have c' : ¬ L'.1 3 = 0 := c
      rw [u_eq] at c'
      have c2 : ¬ uN (L'.1 3) = 0 := c'
      refine Tm_suc (fun k => by rw [y_X10_made]) ?_
      refine Tm_oc (c_makeWhole h ?_ ?_) (fun r hr => b6 _ _ ?_)
      · show 1 ≤ uN (L'.1 3); omega
      · show uN (L'.1 3) < _; omega
      · exact Vx_M hr
    have b4 : ∀ (L' : LV), Tm (fun k => y_X10_made k 4 L' σ) (Vx g t σ 2) := by
      intro L'
      refine Tm_suc (fun k => by rw [y_X10_made]) ?_
      refine Tm_ite (fun _ => b8 _ _ (Vx_zero h (WF_r σ))) (fun c => ?_)
      refine Tm_suc (fun k => by rw [y_X10_made]) ?_
      refine Tm_ite (fun _ => ?_) (fun _ => b10 _)
      refine Tm_suc (fun k => by rw [y_X10_made]) ?_
      exact b10 _
    refine Tm_suc (fun k => by rw [y_X10_made]) ?_
    refine Tm_chk (by decide) ?_
    refine Tm_ite (fun _ => b3 _ d) (fun _ => ?_)
    refine Tm_ite (fun _ => b3 _ d) (fun _ => ?_)
    refine Tm_ite (fun _ => b4 _) (fun _ => ?_)
    refine Tm_ite (fun _ => b3 _ d) (fun _ => ?_)
    exact Tm_ite (fun _ => b4 _) (fun _ => b3 _ d)
  have b1 : ∀ (m : Nat) (L' : LV), m ≤ 72 → uN (L'.1 4) = m → L'.1 3 = L'.1 4 → Tm (fun k => y_X10_made k 1 L' σ) (Vx g t σ 2) := by
    intro m
    induction m with
    | zero =>
      intro L' hm d4 d3
      refine Tm_suc (fun k => by rw [y_X10_made]) ?_
      refine Tm_yes (by rw [u_le (by omega) (by decide), d4]; exact Nat.zero_le _) (b2 _ (by rw [d3]; omega))
    | succ m ih =>
      intro L' hm d4 d3
      have e : uN (L'.1 4 - 1) = m := by
        rw [u_sub (by rw [d4]; show 1 ≤ _; omega), d4]; rfl
      refine Tm_suc (fun k => by rw [y_X10_made]) ?_
      refine Tm_ite (fun _ => b2 _ (by rw [d3]; omega)) (fun _ => ?_)
      refine Tm_chk (u_in (by omega) (by decide)) ?_
      refine Tm_ite (fun _ => ?_) (fun _ => b2 _ (by rw [d3]; omega))
      refine ih _ (by omega) ?_ ?_
      · show uN (L'.1 4 + (-1)) = m
        rw [u_dec (by omega)]; omega
      · show L'.1 4 - 1 = L'.1 4 + (-1)
        rw [u_eq, u_dec (by omega), e]; omega
  refine Tm_suc (fun k => by rw [y_X10_made]) ?_
  exact b1 (uN (L.1 1)) _ n1 rfl rfl
theorem c_added (h : HQ g l t σ) (hx : W2 g σ (L.1 1)) (hy : W2 g σ (L.1 2)) : Tm (fun k => y_X10_added k 0 L σ) (Vx g t σ 2) := by
  have b3 : ∀ (L' : LV), Tm (fun k => y_X10_added k 3 L' σ) (Vx g t σ 2) := by
    intro L'
    refine Tm_suc (fun k => by rw [y_X10_added]) ?_
    exact Tm_oc (c_of h) (fun r hr => Tm_some hr)
  have fin : ∀ (L' : LV) (σ' : CS) (n b : Int32), WF σ σ' → uN n ≤ 72 → Tm (fun k => y_X10_made k 0 (lI (lI lZ 1 n) 2 b) σ') (Vx g t σ 2) := by
    intro L' σ' n b w d
    exact Tm_mono (c_made (HQ_W h w) d) (fun r hr => Vx_W h w hr)
  have b5 : ∀ (L' : LV) (σ' : CS), WF σ σ' → uN (L'.1 4) ≤ 32 → uN (L'.1 5) ≤ 32 → Tm (fun k => y_X10_added k 5 L' σ') (Vx g t σ 2) := by
    intro L' σ' w d4 d5
    refine Tm_suc (fun k => by rw [y_X10_added]) ?_
    refine Tm_ite (fun _ => ?_) (fun _ => ?_)
    · refine Tm_oc (c_addLimbs (by show uN (L'.1 4) < 72; omega) (by show uN (L'.1 5) < 72; omega)) (fun r hr => ?_)
      exact Tm_oc (fin L' _ _ _ (WF_t w hr.1) hr.2.2) (fun r hr => Tm_some hr)
    · refine Tm_suc (fun k => by rw [y_X10_added]) ?_
      refine Tm_oc (c_compareLimbs (by show uN (L'.1 4) ≤ 72; omega)) (fun r hr => ?_)
      have e : r.2 = σ' := hr
      rw [e]
      refine Tm_ite (fun _ => Tm_some (Vx_zero h w)) (fun _ => ?_)
      refine Tm_suc (fun k => by rw [y_X10_added]) ?_
      refine Tm_ite (fun _ => ?_) (fun _ => ?_)
      · refine Tm_suc (fun k => by rw [y_X10_added]) ?_
        refine Tm_oc (c_takeLimbs6 (by show uN (L'.1 5) ≤ 72; omega) (by show uN (L'.1 4) ≤ 72; omega)) (fun r hr => ?_)
        refine Tm_oc (fin L' _ _ _ (WF_t w hr.1) ?_) (fun r hr => Tm_some hr)
        rw [hr.2]; show uN (L'.1 5) ≤ 72; omega
      · refine Tm_oc (c_takeLimbs5 (by show uN (L'.1 4) ≤ 72; omega) (by show uN (L'.1 5) ≤ 72; omega)) (fun r hr => ?_)
        refine Tm_oc (fin L' _ _ _ (WF_t w hr.1) ?_) (fun r hr => Tm_some hr)
        rw [hr.2]; show uN (L'.1 4) ≤ 72; omega
  have b1 : ∀ (L' : LV), L'.1 1 = L.1 1 → L'.1 2 = L.1 2 → Tm (fun k => y_X10_added k 1 L' σ) (Vx g t σ 2) := by
    intro L' a1 a2
    have hx' : W2 g σ (L'.1 1) := by rw [a1]; exact hx
    have hy' : W2 g σ (L'.1 2) := by rw [a2]; exact hy
    refine Tm_suc (fun k => by rw [y_X10_added]) ?_
    refine Tm_oc (c_load5 h hx'.1 (fun c => W2_h hx' c)) (fun r1 h1 => ?_)
    have q1 := W2_W h1.1 hy'
    refine Tm_oc (c_load6 (HQ_W h h1.1) q1.1 (fun c => W2_h q1 c)) (fun r2 h2 => ?_)
    have w2 := WF_t h1.1 h2.1
    refine Tm_oc (c_isBelow (HQ_W h w2) hx'.1) (fun r3 h3 => ?_)
    have e3 : r3.2 = r2.2 := h3.1
    rw [e3]
    refine Tm_oc (c_isBelow (HQ_W h w2) hy'.1) (fun r4 h4 => ?_)
    have e4 : r4.2 = r2.2 := h4.1
    rw [e4]
    refine Tm_ite (fun _ => ?_) (fun _ => ?_)
    · refine Tm_suc (fun k => by rw [y_X10_added]) ?_
      exact b5 _ _ w2 h1.2 h2.2
    · exact b5 _ _ w2 h1.2 h2.2
  refine Tm_suc (fun k => by rw [y_X10_added]) ?_
  refine Tm_ite (fun _ => b1 _ rfl rfl) (fun _ => Tm_ite (fun _ => b1 _ rfl rfl) (fun _ => Tm_ite (fun _ => ?_) (fun _ => b3 _)))
  refine Tm_suc (fun k => by rw [y_X10_added]) ?_
  exact b3 _
theorem c_number : Tm (fun k => y_X10_number k 0 L σ) (Qs σ) := by
  refine Tm_suc (fun k => by rw [y_X10_number]) ?_
  exact Tm_some rfl
theorem c_clamped (h : HQ g l t σ) (hx : Gv g (L.1 1)) : Tm (fun k => y_X10_clamped k 0 L σ) (Qs σ) := by
  have b3 : ∀ L' : LV, Tm (fun k => y_X10_clamped k 3 L' σ) (Qs σ) := by
    intro L'
    refine Tm_suc (fun k => by rw [y_X10_clamped]) ?_
    exact Tm_some rfl
  refine Tm_suc (fun k => by rw [y_X10_clamped]) ?_
  refine Tm_ite (fun c => ?_) (fun _ => Tm_some rfl)
  rw [u_nn] at c
  refine Tm_suc (fun k => by rw [y_X10_clamped]) ?_
  refine Tm_chk (in_g h hx c) ?_
  refine Tm_ite (fun _ => ?_) (fun _ => b3 _)
  refine Tm_suc (fun k => by rw [y_X10_clamped]) ?_
  exact b3 _
theorem c_negated (h : HQ g l t σ) (hx : W2 g σ (L.1 1)) : Tm (fun k => y_X10_negated k 0 L σ) (Vx g t σ 2) := by
  have b2 : ∀ (L' : LV) (σ' : CS), WF σ σ' → uN (L'.1 101) ≤ 72 → Tm (fun k => y_X10_negated k 2 L' σ') (Vx g t σ 2) := by
    intro L' σ' w d
    refine Tm_suc (fun k => by rw [y_X10_negated]) ?_
    exact Tm_oc (c_made (HQ_W h w) d) (fun r hr => Tm_some (Vx_W h w hr))
  refine Tm_suc (fun k => by rw [y_X10_negated]) ?_
  refine Tm_oc (c_load7 h hx.1 (fun c => W2_h hx c)) (fun r1 h1 => ?_)
  refine Tm_oc (c_isBelow (HQ_W h h1.1) hx.1) (fun r2 h2 => ?_)
  have e2 : r2.2 = r1.2 := h2.1
  rw [e2]
  refine Tm_ite (fun _ => ?_) (fun _ => ?_)
  · exact b2 _ _ h1.1 (by show uN r1.1 ≤ 72; omega)
  · refine Tm_suc (fun k => by rw [y_X10_negated]) ?_
    exact b2 _ _ h1.1 (by show uN r1.1 ≤ 72; omega)
theorem c_absolute (h : HQ g l t σ) (hx : W2 g σ (L.1 1)) : Tm (fun k => y_X10_absolute k 0 L σ) (Vx g t σ 2) := by
  have b2 : ∀ (L' : LV) (σ' : CS), Vx g t σ 2 (L'.1 100, σ') → Tm (fun k => y_X10_absolute k 2 L' σ') (Vx g t σ 2) := by
    intro L' σ' d
    refine Tm_suc (fun k => by rw [y_X10_absolute]) ?_
    exact Tm_some d
  refine Tm_suc (fun k => by rw [y_X10_absolute]) ?_
  refine Tm_oc (c_isBelow h hx.1) (fun r1 h1 => ?_)
  have e1 : r1.2 = σ := h1.1
  rw [e1]
  refine Tm_ite (fun _ => ?_) (fun _ => ?_)
  · refine Tm_suc (fun k => by rw [y_X10_absolute]) ?_
    exact b2 _ _ ⟨g, l, t, Gr_W h (WF_r σ), Or.inl hx⟩
  · exact Tm_oc (c_negated h hx) (fun r hr => b2 _ _ hr)
theorem c_isError : Tm (fun k => y_X11_isError k 0 L σ) (fun r => (r.2 = σ ∧ (r.1 = 0 ∨ r.1 = 1)) ∧ ((r.1 = 0 → ¬ Rw (L.1 0)) ∧ (r.1 = 0 ↔ ¬ Rr (L.1 0)))) := by
  have q := u_lt (L.1 0)
  have eF : uN (-268435456) = 4026531840 := rfl
  refine Tm_suc (fun k => by rw [y_X11_isError]) ?_
  rw [u_tag]
  refine Tm_ite (fun c => ?_) (fun c => ?_)
  · rw [u_eq, u_n (by omega)] at c
    refine Tm_suc (fun k => by rw [y_X11_isError]) ?_
    refine Tm_chk (Or.inr rfl) ?_
    refine Tm_some ⟨⟨rfl, Or.inr rfl⟩, ?_⟩
    show ((1 : Int32) = 0 → _) ∧ ((1 : Int32) = 0 ↔ ¬ 4026531840 ≤ uN (L.1 0))
    exact ⟨fun z => absurd z (by decide), fun z => absurd z (by decide), fun z => absurd (by omega) z⟩
  · rw [u_eq, u_n (by omega)] at c
    refine Tm_suc (fun k => by rw [y_X11_isError]) ?_
    refine Tm_suc (fun k => by rw [y_X11_isError]) ?_
    refine Tm_chk (Or.inl rfl) ?_
    refine Tm_some ⟨⟨rfl, Or.inl rfl⟩, ?_⟩
    show ((0 : Int32) = 0 → _) ∧ ((0 : Int32) = 0 ↔ ¬ 4026531840 ≤ uN (L.1 0))
    exact ⟨fun _ h => by have z : 4026531840 ≤ uN (L.1 0) := h.1; omega, fun _ => by omega, fun _ => rfl⟩
theorem c_product (h : HQ g l t σ) (hx : W2 g σ (L.1 1)) (hy : W2 g σ (L.1 2)) : Tm (fun k => y_X10_product k 0 L σ) (Vx g t σ 2) := by
  have b6 : ∀ (L' : LV) (σ' : CS), Vx g t σ 2 (L'.1 100, σ') → Tm (fun k => y_X10_product k 6 L' σ') (Vx g t σ 2) := by
    intro L' σ' d
    refine Tm_suc (fun k => by rw [y_X10_product]) ?_
    exact Tm_some d
  have b12 : ∀ (L' : LV) (σ' : CS), WF σ σ' → uN (L'.1 101) ≤ 72 → Tm (fun k => y_X10_product k 12 L' σ') (Vx g t σ 2) := by
    intro L' σ' w d
    refine Tm_suc (fun k => by rw [y_X10_product]) ?_
    exact Tm_oc (c_made (HQ_W h w) d) (fun r hr => Tm_some (Vx_W h w hr))
  have b9 : ∀ (n m : Nat), n + m ≤ 33 → ∀ (L' : LV) (σ' : CS), WF σ σ' → L'.1 1 = L.1 1 → L'.1 2 = L.1 2 → uN (L'.1 3) = n → uN (L'.1 4) = m → Tm (fun k => y_X10_product k 9 L' σ') (Vx g t σ 2) := by
    intro n m nm L' σ' w a1 a2 a3 a4
    have e : uN (L'.1 3 + L'.1 4) = n + m := by rw [u_add (by omega), a3, a4]
    refine Tm_suc (fun k => by rw [y_X10_product]) ?_
    refine Tm_oc (c_isBelow (HQ_W h w) (by show Gv g (L'.1 1); rw [a1]; exact hx.1)) (fun r1 h1 => ?_)
    have e1 : r1.2 = σ' := h1.1
    rw [e1]
    refine Tm_oc (c_isBelow (HQ_W h w) (by show Gv g (L'.1 2); rw [a2]; exact hy.1)) (fun r2 h2 => ?_)
    have e2 : r2.2 = σ' := h2.1
    rw [e2]
    refine Tm_ite (fun _ => ?_) (fun _ => ?_)
    · refine Tm_suc (fun k => by rw [y_X10_product]) ?_
      exact b12 _ _ w (by show uN (L'.1 3 + L'.1 4) ≤ 72; omega)
    · exact b12 _ _ w (by show uN (L'.1 3 + L'.1 4) ≤ 72; omega)
  have b8 : ∀ (n m : Nat), n + m ≤ 33 → ∀ (c : Nat) (L' : LV) (σ' : CS), WF σ σ' → L'.1 1 = L.1 1 → L'.1 2 = L.1 2 → uN (L'.1 3) = n → uN (L'.1 4) = m → uN (L'.1 5) + c = n → Tm (fun k => y_X10_product k 8 L' σ') (Vx g t σ 2) := by
    intro n m nm c
    induction c with
    | zero =>
      intro L' σ' w a1 a2 a3 a4 a5
      refine Tm_suc (fun k => by rw [y_X10_product]) ?_
      exact Tm_yes (by rw [u_le (by omega) (by omega)]; omega) (b9 n m nm _ _ w a1 a2 a3 a4)
    | succ c ih =>
      intro L' σ' w a1 a2 a3 a4 a5
      have b10 : ∀ (d : Nat) (L2 : LV) (σ2 : CS), WF σ σ2 → L2.1 1 = L.1 1 → L2.1 2 = L.1 2 → uN (L2.1 3) = n → uN (L2.1 4) = m → L2.1 5 = L'.1 5 → uN (L2.1 10) + d = m → Tm (fun k => y_X10_product k 10 L2 σ2) (Vx g t σ 2) := by
        intro d
        induction d with
        | zero =>
          intro L2 σ2 w z1 z2 z3 z4 z5 z10
          refine Tm_suc (fun k => by rw [y_X10_product]) ?_
          refine Tm_yes (by rw [u_le (by omega) (by omega)]; omega) ?_
          refine Tm_suc (fun k => by rw [y_X10_product]) ?_
          have e : uN (L2.1 5 + L2.1 4) = uN (L'.1 5) + m := by rw [z5, u_add (by omega), z4]
          refine Tm_chk (u_in (by omega) (by decide)) ?_
          refine ih _ _ (WF_t w (WF_A _ (by decide) _ _)) ?_ ?_ ?_ ?_ ?_
          · exact z1
          · exact z2
          · exact z3
          · exact z4
          · show uN (L2.1 5 + 1) + c = n
            rw [z5, u_inc (by omega)]; omega
        | succ d jh =>
          intro L2 σ2 w z1 z2 z3 z4 z5 z10
          have e : uN (L2.1 5 + L2.1 10) = uN (L'.1 5) + uN (L2.1 10) := by rw [z5, u_add (by omega)]
          refine Tm_suc (fun k => by rw [y_X10_product]) ?_
          refine Tm_ite (fun q => absurd q (by rw [u_le (by omega) (by omega)]; omega)) (fun _ => ?_)
          refine Tm_chk (u_in (by omega) (by decide)) ?_
          refine Tm_chk (u_in (by omega) (by decide)) ?_
          refine Tm_chk (u_in (by omega) (by decide)) ?_
          refine jh _ _ (WF_t w (WF_A _ (by decide) _ _)) ?_ ?_ ?_ ?_ ?_ ?_
          · exact z1
          · exact z2
          · exact z3
          · exact z4
          · exact z5
          · show uN (L2.1 10 + 1) + d = m
            rw [u_inc (by omega)]; omega
      refine Tm_suc (fun k => by rw [y_X10_product]) ?_
      refine Tm_ite (fun q => absurd q (by rw [u_le (by omega) (by omega)]; omega)) (fun _ => ?_)
      refine Tm_chk (u_in (by omega) (by decide)) ?_
      refine b10 m _ _ w ?_ ?_ ?_ ?_ ?_ ?_
      · exact a1
      · exact a2
      · exact a3
      · exact a4
      · rfl
      · show 0 + m = m; omega
  have b5 : ∀ (n m : Nat), n + m ≤ 33 → ∀ (c : Nat) (L' : LV) (σ' : CS), WF σ σ' → L'.1 1 = L.1 1 → L'.1 2 = L.1 2 → uN (L'.1 3) = n → uN (L'.1 4) = m → uN (L'.1 5) + c = n + m → Tm (fun k => y_X10_product k 5 L' σ') (Vx g t σ 2) := by
    intro n m nm c
    induction c with
    | zero =>
      intro L' σ' w a1 a2 a3 a4 a5
      have e : uN (L'.1 3 + L'.1 4) = n + m := by rw [u_add (by omega), a3, a4]
      refine Tm_suc (fun k => by rw [y_X10_product]) ?_
      refine Tm_yes (by rw [u_le (by omega) (by omega)]; omega) ?_
      refine Tm_suc (fun k => by rw [y_X10_product]) ?_
      refine b8 n m nm n _ _ w ?_ ?_ ?_ ?_ ?_
      · exact a1
      · exact a2
      · exact a3
      · exact a4
      · show 0 + n = n; omega
    | succ c ih =>
      intro L' σ' w a1 a2 a3 a4 a5
      have e : uN (L'.1 3 + L'.1 4) = n + m := by rw [u_add (by omega), a3, a4]
      refine Tm_suc (fun k => by rw [y_X10_product]) ?_
      refine Tm_ite (fun q => absurd q (by rw [u_le (by omega) (by omega)]; omega)) (fun _ => ?_)
      refine Tm_chk (u_in (by omega) (by decide)) ?_
      refine ih _ _ (WF_t w (WF_A _ (by decide) _ _)) ?_ ?_ ?_ ?_ ?_
      · exact a1
      · exact a2
      · exact a3
      · exact a4
      · show uN (L'.1 5 + 1) + c = n + m
        rw [u_inc (by omega)]; omega
  have b1 : ∀ (L' : LV), L'.1 1 = L.1 1 → L'.1 2 = L.1 2 → Tm (fun k => y_X10_product k 1 L' σ) (Vx g t σ 2) := by
    intro L' a1 a2
    have hx' : W2 g σ (L'.1 1) := by rw [a1]; exact hx
    have hy' : W2 g σ (L'.1 2) := by rw [a2]; exact hy
    refine Tm_suc (fun k => by rw [y_X10_product]) ?_
    refine Tm_oc (c_load5 h hx'.1 (fun c => W2_h hx' c)) (fun r1 h1 => ?_)
    have q1 := W2_W h1.1 hy'
    refine Tm_oc (c_load6 (HQ_W h h1.1) q1.1 (fun c => W2_h q1 c)) (fun r2 h2 => ?_)
    have w2 := WF_t h1.1 h2.1
    have z : ∀ L2 : LV, Tm (fun k => y_X10_product k 3 L2 r2.2) (Vx g t σ 2) := by
      intro L2
      refine Tm_suc (fun k => by rw [y_X10_product]) ?_
      exact b6 _ _ (Vx_zero h w2)
    have l1 := h1.2
    have l2 := h2.2
    refine Tm_ite (fun c => ?_) (fun _ => Tm_ite (fun _ => z _) (fun _ => Tm_ite (fun _ => z _) (fun _ => ?_)))
    · rw [u_le (by rw [u_add (by omega)]; omega) (by decide), u_add (by omega)] at c
      have c' : uN r1.1 + uN r2.1 ≤ 33 := c
      refine Tm_suc (fun k => by rw [y_X10_product]) ?_
      refine b5 (uN r1.1) (uN r2.1) c' (uN r1.1 + uN r2.1) _ _ w2 ?_ ?_ ?_ ?_ ?_
      · exact a1
      · exact a2
      · rfl
      · rfl
      · show 0 + _ = _; omega
    · refine Tm_suc (fun k => by rw [y_X10_product]) ?_
      exact b6 _ _ (Vx_raw h w2 (by show 4026531840 ≤ uN (-268435451) ∧ ¬ uN (-268435451) % 16 = 0; decide))
  refine Tm_suc (fun k => by rw [y_X10_product]) ?_
  refine Tm_ite (fun _ => b1 _ rfl rfl) (fun _ => Tm_ite (fun _ => b1 _ rfl rfl) (fun _ => ?_))
  exact Tm_oc (c_of h) (fun r hr => Tm_some hr)
end CRM
end JnS349
section JnS350
/-! The class: powers, long division. -/
section CRN
variable {g g' g2 : Nat → Prop} {l l' : List Nat} {t t' t2 : Nat} {σ σ' σ2 : CS} {L : LV} {x y i : Int32} {M M' : Nat → Int32}
theorem u_dbl {x : Int32} (h : uN x < 2147483648) : uN (2 * x) = 2 * uN x := by
  show ((2 : Int32).toBitVec * x.toBitVec).toNat = _
  rw [BitVec.toNat_mul]
  show 2 * uN x % 4294967296 = _
  omega
theorem W2_i (σ : CS) {v : Int32} (a : 2684354560 ≤ uN v) (b : uN v < 2952790016) : W2 g σ v := by
  refine ⟨Or.inl ⟨by omega, by omega⟩, ?_⟩
  unfold kdC
  rw [if_neg (by omega)]
  omega
/-- not an error, so a whole -/
theorem Vx_2 {r : Int32 × CS} (q : Vx g t σ 2 r) : ∃ (g' : Nat → Prop) (l' : List Nat) (t' : Nat), Gr g t σ g' l' t' r.2 ∧ (W2 g' r.2 r.1 ∨ Rw r.1) := by
  obtain ⟨a, b, c, d, e⟩ := q
  exact ⟨a, b, c, d, e⟩
theorem pw_11 : ∀ (m : Nat) (L : LV) (g' : Nat → Prop) (l' : List Nat) (t' : Nat) (σ' : CS), Gr g t σ g' l' t' σ' → (uN (L.1 6) + 1 = m ∨ (2147483648 ≤ uN (L.1 6) ∧ m = 0)) → m ≤ 12 → W2 g' σ' (L.1 1) → (W2 g' σ' (L.1 5) ∨ Rw (L.1 5)) → Tm (fun k => y_X10_power k 11 L σ') (Vx g t σ 2) := by
  have b12 : ∀ (L : LV) (g' : Nat → Prop) (l' : List Nat) (t' : Nat) (σ' : CS), Gr g t σ g' l' t' σ' → (W2 g' σ' (L.1 5) ∨ Rw (L.1 5)) → Tm (fun k => y_X10_power k 12 L σ') (Vx g t σ 2) := by
    intro L g' l' t' σ' hG d
    refine Tm_suc (fun k => by rw [y_X10_power]) ?_
    exact Tm_some ⟨g', l', t', hG, d⟩
  intro m
  induction m with
  | zero =>
    intro L g' l' t' σ' hG d6 hm d1 d5
    refine Tm_suc (fun k => by rw [y_X10_power]) ?_
    exact Tm_yes (by rw [u_neg]; omega) (b12 _ _ _ _ _ hG d5)
  | succ m ih =>
    intro L g' l' t' σ' hG d6 hm d1 d5
    have b13 : ∀ (L2 : LV) (g2 : Nat → Prop) (l2 : List Nat) (t2 : Nat) (σ2 : CS), Gr g t σ g2 l2 t2 σ2 → L2.1 6 = L.1 6 → W2 g2 σ2 (L2.1 1) → (W2 g2 σ2 (L2.1 5) ∨ Rw (L2.1 5)) → Tm (fun k => y_X10_power k 13 L2 σ2) (Vx g t σ 2) := by
      intro L2 g2 l2 t2 σ2 hG2 a6 a1 a5
      refine Tm_suc (fun k => by rw [y_X10_power]) ?_
      refine ih _ _ _ _ _ hG2 ?_ (by omega) ?_ ?_
      · show uN (L2.1 6 + (-1)) + 1 = m ∨ (2147483648 ≤ uN (L2.1 6 + (-1)) ∧ m = 0)
        rw [a6]
        by_cases c : uN (L.1 6) = 0
        · right
          rw [show L.1 6 = 0 from by rw [u_eq, c]; rfl]
          exact ⟨by decide, by omega⟩
        · left
          rw [u_dec (by omega)]; omega
      · exact a1
      · exact a5
    refine Tm_suc (fun k => by rw [y_X10_power]) ?_
    refine Tm_ite (fun _ => b12 _ _ _ _ _ hG d5) (fun _ => ?_)
    refine Tm_oc c_isError (fun r2 h2 => ?_)
    have e2 : r2.2 = σ' := h2.1.1
    rw [e2]
    refine Tm_ite (fun c => ?_) (fun _ => b12 _ _ _ _ _ hG d5)
    have q5 : W2 g' σ' (L.1 5) := d5.resolve_right (h2.2.1 c)
    refine Tm_oc (c_product hG.1 q5 q5) (fun r4 h4 => ?_)
    obtain ⟨g4, l4, t4, G4, v4⟩ := Vx_2 h4
    have GG := Gr_t hG G4
    have d14 : W2 g4 r4.2 (L.1 1) := W2_G hG.1 G4 d1
    refine Tm_oc c_isError (fun r5 h5 => ?_)
    have e5 : r5.2 = r4.2 := h5.1.1
    rw [e5]
    refine Tm_ite (fun c5 => Tm_ite (fun _ => ?_) (fun _ => ?_)) (fun _ => ?_)
    · have q4 : W2 g4 r4.2 r4.1 := v4.resolve_right (h5.2.1 c5)
      refine Tm_oc (c_product GG.1 q4 d14) (fun r8 h8 => ?_)
      obtain ⟨g8, l8, t8, G8, v8⟩ := Vx_2 h8
      exact b13 _ _ _ _ _ (Gr_t GG G8) rfl (W2_G GG.1 G8 d14) v8
    · exact b13 _ _ _ _ _ GG rfl d14 v4
    · exact b13 _ _ _ _ _ GG rfl d14 v4
theorem c_power (h : HQ g l t σ) (hx : W2 g σ (L.1 1)) (hy : W2 g σ (L.1 2)) : Tm (fun k => y_X10_power k 0 L σ) (Vx g t σ 2) := by
  have one : Vx g t σ 2 (-1610612735, σ) := Vx_i h (WF_r σ) (by decide) (by decide)
  have b2 : ∀ L' : LV, Tm (fun k => y_X10_power k 2 L' σ) (Vx g t σ 2) := by
    intro L'
    refine Tm_suc (fun k => by rw [y_X10_power]) ?_
    exact Tm_some one
  have b10 : ∀ L' : LV, Vx g t σ 2 (L'.1 100, σ) → Tm (fun k => y_X10_power k 10 L' σ) (Vx g t σ 2) := by
    intro L' d
    refine Tm_suc (fun k => by rw [y_X10_power]) ?_
    exact Tm_some d
  have ax : Vx g t σ 2 (L.1 1, σ) := ⟨g, l, t, Gr_W h (WF_r σ), Or.inl hx⟩
  have b7 : ∀ L' : LV, L'.1 1 = L.1 1 → Tm (fun k => y_X10_power k 7 L' σ) (Vx g t σ 2) := by
    intro L' a1
    refine Tm_suc (fun k => by rw [y_X10_power]) ?_
    refine Tm_ite (fun _ => b10 _ one) (fun _ => ?_)
    refine Tm_suc (fun k => by rw [y_X10_power]) ?_
    refine b10 _ ?_
    show Vx g t σ 2 (L'.1 1, σ)
    rw [a1]
    exact ax
  refine Tm_suc (fun k => by rw [y_X10_power]) ?_
  refine Tm_oc (c_isBelow h hy.1) (fun r1 h1 => ?_)
  have e1 : r1.2 = σ := h1.1
  rw [e1]
  refine Tm_ite (fun _ => ?_) (fun _ => Tm_some (Vx_raw h (WF_r σ) (by show 4026531840 ≤ uN (-268435452) ∧ ¬ uN (-268435452) % 16 = 0; decide)))
  refine Tm_suc (fun k => by rw [y_X10_power]) ?_
  refine Tm_ite (fun _ => b2 _) (fun _ => Tm_ite (fun _ => b2 _) (fun _ => ?_))
  refine Tm_suc (fun k => by rw [y_X10_power]) ?_
  refine Tm_ite (fun _ => Tm_some ax) (fun _ => ?_)
  refine Tm_suc (fun k => by rw [y_X10_power]) ?_
  refine Tm_oc c_small (fun r h2 => ?_)
  have e2 : r.2 = σ := h2.1
  rw [e2]
  refine Tm_ite (fun _ => Tm_ite (fun c => ?_) (fun _ => b7 _ rfl)) (fun _ => ?_)
  · rw [u_nn] at c
    have k2 := W2_h hy c
    have cg := (HQ_c h (Gv_c hy.1 c).2).2.2.2.2.2.2.2.2.1 k2
    have w : hdW (uN (σ.2.2.1 3 (uN (L.1 2)))) = hdL (uN (σ.2.2.1 3 (uN (L.1 2)))) := by
      unfold hdK at k2; unfold hdW; rw [if_neg (by omega)]
    refine Tm_suc (fun k => by rw [y_X10_power]) ?_
    refine Tm_chk (in_gi (y := 1) h hy.1 c (by show 1 ≤ _; omega)).1 ?_
    exact b7 _ rfl
  · refine Tm_suc (fun k => by rw [y_X10_power]) ?_
    refine Tm_oc (c_clamped h hy.1) (fun r3 h3 => ?_)
    have e3 : r3.2 = σ := h3
    rw [e3]
    refine Tm_ite (fun _ => ?_) (fun _ => Tm_some (Vx_raw h (WF_r σ) (by show 4026531840 ≤ uN (-268435451) ∧ ¬ uN (-268435451) % 16 = 0; decide)))
    refine Tm_suc (fun k => by rw [y_X10_power]) ?_
    refine Tm_oc c_number (fun r4 h4 => ?_)
    have e4 : r4.2 = σ := h4
    rw [e4]
    refine pw_11 12 _ g l t σ (Gr_W h (WF_r σ)) ?_ (by decide) ?_ ?_
    · left; rfl
    · exact hx
    · left; exact W2_i σ (by show 2684354560 ≤ uN (-1610612735); decide) (by show uN (-1610612735) < 2952790016; decide)
theorem c_fill10 : Tm (fun k => y_J7_fill_53178__a10 k 0 L σ) (fun r => WF σ r.2) := by
  have b1 : ∀ (m : Nat) (L' : LV) (σ' : CS), WF σ σ' → uN (L'.1 2) + m = 72 → uN (L'.1 3) = 72 → Tm (fun k => y_J7_fill_53178__a10 k 1 L' σ') (fun r => WF σ r.2) := by
    intro m
    induction m with
    | zero =>
      intro L' σ' w d2 d3
      refine Tm_suc (fun k => by rw [y_J7_fill_53178__a10]) ?_
      refine Tm_yes (by rw [u_le (by omega) (by omega)]; omega) ?_
      refine Tm_suc (fun k => by rw [y_J7_fill_53178__a10]) ?_
      exact Tm_some w
    | succ m ih =>
      intro L' σ' w d2 d3
      refine Tm_suc (fun k => by rw [y_J7_fill_53178__a10]) ?_
      refine Tm_ite (fun q => absurd q (by rw [u_le (by omega) (by omega)]; omega)) (fun _ => ?_)
      refine Tm_chk (u_in (by omega) (by decide)) ?_
      refine ih _ _ (WF_t w (WF_A _ (by decide) _ _)) ?_ ?_
      · show uN (L'.1 2 + 1) + m = 72
        rw [u_inc (by omega)]; omega
      · exact d3
  refine Tm_suc (fun k => by rw [y_J7_fill_53178__a10]) ?_
  exact b1 72 _ σ (WF_r σ) rfl rfl
theorem c_fill8 : Tm (fun k => y_J7_fill_53178__a8 k 0 L σ) (fun r => WF σ r.2) := by
  have b1 : ∀ (m : Nat) (L' : LV) (σ' : CS), WF σ σ' → uN (L'.1 2) + m = 72 → uN (L'.1 3) = 72 → Tm (fun k => y_J7_fill_53178__a8 k 1 L' σ') (fun r => WF σ r.2) := by
    intro m
    induction m with
    | zero =>
      intro L' σ' w d2 d3
      refine Tm_suc (fun k => by rw [y_J7_fill_53178__a8]) ?_
      refine Tm_yes (by rw [u_le (by omega) (by omega)]; omega) ?_
      refine Tm_suc (fun k => by rw [y_J7_fill_53178__a8]) ?_
      exact Tm_some w
    | succ m ih =>
      intro L' σ' w d2 d3
      refine Tm_suc (fun k => by rw [y_J7_fill_53178__a8]) ?_
      refine Tm_ite (fun q => absurd q (by rw [u_le (by omega) (by omega)]; omega)) (fun _ => ?_)
      refine Tm_chk (u_in (by omega) (by decide)) ?_
      refine ih _ _ (WF_t w (WF_A _ (by decide) _ _)) ?_ ?_
      · show uN (L'.1 2 + 1) + m = 72
        rw [u_inc (by omega)]; omega
      · exact d3
  refine Tm_suc (fun k => by rw [y_J7_fill_53178__a8]) ?_
  exact b1 72 _ σ (WF_r σ) rfl rfl
theorem c_fill9 : Tm (fun k => y_J7_fill_53178__a9 k 0 L σ) (fun r => WF σ r.2) := by
  have b1 : ∀ (m : Nat) (L' : LV) (σ' : CS), WF σ σ' → uN (L'.1 2) + m = 72 → uN (L'.1 3) = 72 → Tm (fun k => y_J7_fill_53178__a9 k 1 L' σ') (fun r => WF σ r.2) := by
    intro m
    induction m with
    | zero =>
      intro L' σ' w d2 d3
      refine Tm_suc (fun k => by rw [y_J7_fill_53178__a9]) ?_
      refine Tm_yes (by rw [u_le (by omega) (by omega)]; omega) ?_
      refine Tm_suc (fun k => by rw [y_J7_fill_53178__a9]) ?_
      exact Tm_some w
    | succ m ih =>
      intro L' σ' w d2 d3
      refine Tm_suc (fun k => by rw [y_J7_fill_53178__a9]) ?_
      refine Tm_ite (fun q => absurd q (by rw [u_le (by omega) (by omega)]; omega)) (fun _ => ?_)
      refine Tm_chk (u_in (by omega) (by decide)) ?_
      refine ih _ _ (WF_t w (WF_A _ (by decide) _ _)) ?_ ?_
      · show uN (L'.1 2 + 1) + m = 72
        rw [u_inc (by omega)]; omega
      · exact d3
  refine Tm_suc (fun k => by rw [y_J7_fill_53178__a9]) ?_
  exact b1 72 _ σ (WF_r σ) rfl rfl
theorem c_shiftUp8 (n1 : uN (L.1 1) ≤ 72) : Tm (fun k => y_X10_shiftUp__a8 k 0 L σ) (fun r => WF σ r.2) := by
  have b1 : ∀ (m : Nat) (L' : LV) (σ' : CS), WF σ σ' → uN (L'.1 4) + m = uN (L.1 1) → L'.1 1 = L.1 1 → Tm (fun k => y_X10_shiftUp__a8 k 1 L' σ') (fun r => WF σ r.2) := by
    intro m
    induction m with
    | zero =>
      intro L' σ' w d4 d1
      refine Tm_suc (fun k => by rw [y_X10_shiftUp__a8]) ?_
      refine Tm_yes (by rw [d1, u_le (by omega) (by omega)]; omega) ?_
      refine Tm_suc (fun k => by rw [y_X10_shiftUp__a8]) ?_
      exact Tm_some w
    | succ m ih =>
      intro L' σ' w d4 d1
      refine Tm_suc (fun k => by rw [y_X10_shiftUp__a8]) ?_
      refine Tm_ite (fun q => absurd q (by rw [d1, u_le (by omega) (by omega)]; omega)) (fun _ => ?_)
      refine Tm_chk (u_in (by omega) (by decide)) ?_
      refine Tm_chk (u_in (by omega) (by decide)) ?_
      refine ih _ _ (WF_t w (WF_A _ (by decide) _ _)) ?_ ?_
      · show uN (L'.1 4 + 1) + m = _
        rw [u_inc (by omega)]; omega
      · exact d1
  refine Tm_suc (fun k => by rw [y_X10_shiftUp__a8]) ?_
  exact b1 (uN (L.1 1)) _ σ (WF_r σ) (by show 0 + _ = _; omega) rfl
theorem c_shiftUp9 (n1 : uN (L.1 1) ≤ 72) : Tm (fun k => y_X10_shiftUp__a9 k 0 L σ) (fun r => WF σ r.2) := by
  have b1 : ∀ (m : Nat) (L' : LV) (σ' : CS), WF σ σ' → uN (L'.1 4) + m = uN (L.1 1) → L'.1 1 = L.1 1 → Tm (fun k => y_X10_shiftUp__a9 k 1 L' σ') (fun r => WF σ r.2) := by
    intro m
    induction m with
    | zero =>
      intro L' σ' w d4 d1
      refine Tm_suc (fun k => by rw [y_X10_shiftUp__a9]) ?_
      refine Tm_yes (by rw [d1, u_le (by omega) (by omega)]; omega) ?_
      refine Tm_suc (fun k => by rw [y_X10_shiftUp__a9]) ?_
      exact Tm_some w
    | succ m ih =>
      intro L' σ' w d4 d1
      refine Tm_suc (fun k => by rw [y_X10_shiftUp__a9]) ?_
      refine Tm_ite (fun q => absurd q (by rw [d1, u_le (by omega) (by omega)]; omega)) (fun _ => ?_)
      refine Tm_chk (u_in (by omega) (by decide)) ?_
      refine Tm_chk (u_in (by omega) (by decide)) ?_
      refine ih _ _ (WF_t w (WF_A _ (by decide) _ _)) ?_ ?_
      · show uN (L'.1 4 + 1) + m = _
        rw [u_inc (by omega)]; omega
      · exact d1
  refine Tm_suc (fun k => by rw [y_X10_shiftUp__a9]) ?_
  exact b1 (uN (L.1 1)) _ σ (WF_r σ) (by show 0 + _ = _; omega) rfl
theorem c_shiftDown (n1 : uN (L.1 1) < 72) : Tm (fun k => y_X10_shiftDown__a8 k 0 L σ) (fun r => WF σ r.2) := by
  have b1 : ∀ (m : Nat) (L' : LV) (σ' : CS), WF σ σ' → uN (L'.1 3) + m = uN (L.1 1) → L'.1 1 = L.1 1 → Tm (fun k => y_X10_shiftDown__a8 k 1 L' σ') (fun r => WF σ r.2) := by
    intro m
    induction m with
    | zero =>
      intro L' σ' w d4 d1
      refine Tm_suc (fun k => by rw [y_X10_shiftDown__a8]) ?_
      refine Tm_yes (by rw [d1, u_le (by omega) (by omega)]; omega) ?_
      refine Tm_suc (fun k => by rw [y_X10_shiftDown__a8]) ?_
      exact Tm_some w
    | succ m ih =>
      intro L' σ' w d4 d1
      have e3 : uN (L'.1 3 + 1) = uN (L'.1 3) + 1 := u_inc (by omega)
      refine Tm_suc (fun k => by rw [y_X10_shiftDown__a8]) ?_
      refine Tm_ite (fun q => absurd q (by rw [d1, u_le (by omega) (by omega)]; omega)) (fun _ => ?_)
      refine Tm_chk (u_in (by omega) (by decide)) ?_
      refine Tm_chk (u_in (by omega) (by decide)) ?_
      refine Tm_chk (u_in (by omega) (by decide)) ?_
      refine ih _ _ (WF_t w (WF_A _ (by decide) _ _)) ?_ ?_
      · show uN (L'.1 3 + 1) + m = _
        omega
      · exact d1
  refine Tm_suc (fun k => by rw [y_X10_shiftDown__a8]) ?_
  exact b1 (uN (L.1 1)) _ σ (WF_r σ) (by show 0 + _ = _; omega) rfl
theorem c_unpackRest (n1 : uN (L.1 1) ≤ 36) : Tm (fun k => y_X10_unpackRest k 0 L σ) (fun r => WF σ r.2 ∧ True) := by
  have b1 : ∀ (m : Nat) (L' : LV) (σ' : CS), WF σ σ' → uN (L'.1 2) + m = uN (L.1 1) → L'.1 1 = L.1 1 → Tm (fun k => y_X10_unpackRest k 1 L' σ') (fun r => WF σ r.2 ∧ True) := by
    intro m
    induction m with
    | zero =>
      intro L' σ' w d4 d1
      refine Tm_suc (fun k => by rw [y_X10_unpackRest]) ?_
      refine Tm_yes (by rw [d1, u_le (by omega) (by omega)]; omega) ?_
      refine Tm_suc (fun k => by rw [y_X10_unpackRest]) ?_
      exact Tm_some ⟨w, trivial⟩
    | succ m ih =>
      intro L' σ' w d4 d1
      have e2 : uN (2 * L'.1 2) = 2 * uN (L'.1 2) := u_dbl (by omega)
      have e3 : uN (2 * L'.1 2 + 1) = 2 * uN (L'.1 2) + 1 := by rw [u_inc (by omega), e2]
      refine Tm_suc (fun k => by rw [y_X10_unpackRest]) ?_
      refine Tm_ite (fun q => absurd q (by rw [d1, u_le (by omega) (by omega)]; omega)) (fun _ => ?_)
      refine Tm_chk (u_in (by omega) (by decide)) ?_
      refine Tm_chk (u_in (by omega) (by decide)) ?_
      refine Tm_chk (u_in (by omega) (by decide)) ?_
      refine ih _ _ (WF_t w (WF_A _ (by decide) _ _)) ?_ ?_
      · show uN (L'.1 2 + 1) + m = _
        rw [u_inc (by omega)]; omega
      · exact d1
  refine Tm_suc (fun k => by rw [y_X10_unpackRest]) ?_
  exact b1 (uN (L.1 1)) _ σ (WF_r σ) (by show 0 + _ = _; omega) rfl
theorem c_unpackQuotient (n1 : uN (L.1 1) ≤ 36) : Tm (fun k => y_X10_unpackQuotient k 0 L σ) (fun r => WF σ r.2 ∧ r.1 = L.1 1) := by
  have b1 : ∀ (m : Nat) (L' : LV) (σ' : CS), WF σ σ' → uN (L'.1 2) + m = uN (L.1 1) → L'.1 1 = L.1 1 → Tm (fun k => y_X10_unpackQuotient k 1 L' σ') (fun r => WF σ r.2 ∧ r.1 = L.1 1) := by
    intro m
    induction m with
    | zero =>
      intro L' σ' w d4 d1
      refine Tm_suc (fun k => by rw [y_X10_unpackQuotient]) ?_
      refine Tm_yes (by rw [d1, u_le (by omega) (by omega)]; omega) ?_
      refine Tm_suc (fun k => by rw [y_X10_unpackQuotient]) ?_
      exact Tm_some ⟨w, d1⟩
    | succ m ih =>
      intro L' σ' w d4 d1
      have e2 : uN (2 * L'.1 2) = 2 * uN (L'.1 2) := u_dbl (by omega)
      have e3 : uN (2 * L'.1 2 + 1) = 2 * uN (L'.1 2) + 1 := by rw [u_inc (by omega), e2]
      refine Tm_suc (fun k => by rw [y_X10_unpackQuotient]) ?_
      refine Tm_ite (fun q => absurd q (by rw [d1, u_le (by omega) (by omega)]; omega)) (fun _ => ?_)
      refine Tm_chk (u_in (by omega) (by decide)) ?_
      refine Tm_chk (u_in (by omega) (by decide)) ?_
      refine Tm_chk (u_in (by omega) (by decide)) ?_
      refine ih _ _ (WF_t w (WF_A _ (by decide) _ _)) ?_ ?_
      · show uN (L'.1 2 + 1) + m = _
        rw [u_inc (by omega)]; omega
      · exact d1
  refine Tm_suc (fun k => by rw [y_X10_unpackQuotient]) ?_
  exact b1 (uN (L.1 1)) _ σ (WF_r σ) (by show 0 + _ = _; omega) rfl
theorem c_restLimbs (n1 : uN (L.1 1) ≤ 72) : Tm (fun k => y_X10_restLimbs k 0 L σ) (fun r => r.2 = σ ∧ uN r.1 ≤ 72) := by
  have b2 : ∀ L' : LV, uN (L'.1 2) ≤ 72 → Tm (fun k => y_X10_restLimbs k 2 L' σ) (fun r => r.2 = σ ∧ uN r.1 ≤ 72) := by
    intro L' d
    refine Tm_suc (fun k => by rw [y_X10_restLimbs]) ?_
    exact Tm_some ⟨rfl, d⟩
  have b1 : ∀ (m : Nat) (L' : LV), m ≤ 72 → uN (L'.1 3) = m → L'.1 2 = L'.1 3 → Tm (fun k => y_X10_restLimbs k 1 L' σ) (fun r => r.2 = σ ∧ uN r.1 ≤ 72) := by
    intro m
    induction m with
    | zero =>
      intro L' hm d3 d2
      refine Tm_suc (fun k => by rw [y_X10_restLimbs]) ?_
      exact Tm_yes (by rw [u_le (by omega) (by decide), d3]; exact Nat.zero_le _) (b2 _ (by rw [d2]; omega))
    | succ m ih =>
      intro L' hm d3 d2
      have e : uN (L'.1 3 - 1) = m := by
        rw [u_sub (by rw [d3]; show 1 ≤ _; omega), d3]; rfl
      refine Tm_suc (fun k => by rw [y_X10_restLimbs]) ?_
      refine Tm_ite (fun _ => b2 _ (by rw [d2]; omega)) (fun _ => ?_)
      refine Tm_chk (u_in (by omega) (by decide)) ?_
      refine Tm_ite (fun _ => ?_) (fun _ => b2 _ (by rw [d2]; omega))
      refine ih _ (by omega) ?_ ?_
      · show uN (L'.1 3 + (-1)) = m
        rw [u_dec (by omega)]; omega
      · show L'.1 3 - 1 = L'.1 3 + (-1)
        rw [u_eq, u_dec (by omega), e]; omega
  refine Tm_suc (fun k => by rw [y_X10_restLimbs]) ?_
  exact b1 (uN (L.1 1)) _ n1 rfl rfl
theorem c_addOne (n1 : uN (L.1 1) < 72) : Tm (fun k => y_X10_addOne k 0 L σ) (fun r => WF σ r.2 ∧ uN r.1 ≤ 72) := by
  have b1 : ∀ (m : Nat) (L' : LV) (σ' : CS), WF σ σ' → uN (L'.1 2) + m = uN (L.1 1) → L'.1 1 = L.1 1 → Tm (fun k => y_X10_addOne k 1 L' σ') (fun r => WF σ r.2 ∧ uN r.1 ≤ 72) := by
    intro m
    induction m with
    | zero =>
      intro L' σ' w d4 d1
      refine Tm_suc (fun k => by rw [y_X10_addOne]) ?_
      refine Tm_yes (by rw [d1, u_le (by omega) (by omega)]; omega) ?_
      refine Tm_suc (fun k => by rw [y_X10_addOne]) ?_
      refine Tm_chk (u_in (by rw [d1]; omega) (by decide)) ?_
      refine Tm_some ⟨WF_t w (WF_A _ (by decide) _ _), ?_⟩
      show uN (L'.1 1 + 1) ≤ 72
      rw [d1, u_inc (by omega)]; omega
    | succ m ih =>
      intro L' σ' w d4 d1
      refine Tm_suc (fun k => by rw [y_X10_addOne]) ?_
      refine Tm_ite (fun q => absurd q (by rw [d1, u_le (by omega) (by omega)]; omega)) (fun _ => ?_)
      refine Tm_chk (u_in (by omega) (by decide)) ?_
      refine Tm_chk (u_in (by omega) (by decide)) ?_
      refine Tm_chk (u_in (by omega) (by decide)) ?_
      refine Tm_ite (fun _ => ?_) (fun _ => Tm_some ⟨WF_t w (WF_A _ (by decide) _ _), by show uN (L'.1 1) ≤ 72; rw [d1]; omega⟩)
      refine Tm_suc (fun k => by rw [y_X10_addOne]) ?_
      refine ih _ _ (WF_t w (WF_A _ (by decide) _ _)) ?_ ?_
      · show uN (L'.1 2 + 1) + m = _
        rw [u_inc (by omega)]; omega
      · exact d1
  refine Tm_suc (fun k => by rw [y_X10_addOne]) ?_
  exact b1 (uN (L.1 1)) _ σ (WF_r σ) (by show 0 + _ = _; omega) rfl
theorem cmp0 {x : Int64} (h : ¬ nbCmp x 0 = 0) : ¬ x = 0 := by
  intro e
  rw [e] at h
  exact h (by decide)
theorem c_dividedSmall (h : HQ g l t σ) : Tm (fun k => y_X10_dividedSmall k 0 L σ) (Vx g t σ 2) := by
  refine Tm_suc (fun k => by rw [y_X10_dividedSmall]) ?_
  refine Tm_ite (fun _ => Tm_some (Vx_raw h (WF_r σ) (by show 4026531840 ≤ uN (-268435454) ∧ ¬ uN (-268435454) % 16 = 0; decide))) (fun c => ?_)
  have c3 := cmp0 c
  have b6 : ∀ L' : LV, Tm (fun k => y_X10_dividedSmall k 6 L' σ) (Vx g t σ 2) := by
    intro L'
    refine Tm_suc (fun k => by rw [y_X10_dividedSmall]) ?_
    exact Tm_oc (c_of h) (fun r hr => Tm_some hr)
  have b2 : ∀ L' : LV, L'.2.1 3 = L.2.1 3 → Tm (fun k => y_X10_dividedSmall k 2 L' σ) (Vx g t σ 2) := by
    intro L' a3
    refine Tm_suc (fun k => by rw [y_X10_dividedSmall]) ?_
    refine Tm_ite (fun _ => ?_) (fun _ => b6 _)
    refine Tm_suc (fun k => by rw [y_X10_dividedSmall]) ?_
    refine Tm_chk0 (by rw [a3]; exact c3) ?_
    exact b6 _
  have b4 : ∀ L' : LV, L'.2.1 3 = L.2.1 3 → Tm (fun k => y_X10_dividedSmall k 4 L' σ) (Vx g t σ 2) := by
    intro L' a3
    refine Tm_suc (fun k => by rw [y_X10_dividedSmall]) ?_
    refine b2 _ ?_
    exact a3
  refine Tm_suc (fun k => by rw [y_X10_dividedSmall]) ?_
  refine Tm_chk0 c3 ?_
  refine Tm_ite (fun _ => b2 _ rfl) (fun _ => Tm_ite (fun _ => ?_) (fun _ => b4 _ rfl))
  refine Tm_suc (fun k => by rw [y_X10_dividedSmall]) ?_
  exact b4 _ rfl
theorem c_addBack (n1 : uN (L.1 1) + uN (L.1 2) < 72) : Tm (fun k => y_X10_addBack k 0 L σ) (fun r => WF σ r.2) := by
  have b1 : ∀ (m : Nat) (L' : LV) (σ' : CS), WF σ σ' → uN (L'.1 4) + m = uN (L.1 2) → L'.1 1 = L.1 1 → L'.1 2 = L.1 2 → Tm (fun k => y_X10_addBack k 1 L' σ') (fun r => WF σ r.2) := by
    intro m
    induction m with
    | zero =>
      intro L' σ' w d4 d1 d2
      have e : uN (L'.1 1 + L'.1 2) = uN (L.1 1) + uN (L.1 2) := by rw [d1, d2, u_add (by omega)]
      refine Tm_suc (fun k => by rw [y_X10_addBack]) ?_
      refine Tm_yes (by rw [d2, u_le (by omega) (by omega)]; omega) ?_
      refine Tm_suc (fun k => by rw [y_X10_addBack]) ?_
      refine Tm_chk (u_in (by omega) (by decide)) ?_
      refine Tm_chk (u_in (by omega) (by decide)) ?_
      exact Tm_some (WF_t w (WF_A _ (by decide) _ _))
    | succ m ih =>
      intro L' σ' w d4 d1 d2
      have e : uN (L'.1 1 + L'.1 4) = uN (L.1 1) + uN (L'.1 4) := by rw [d1, u_add (by omega)]
      refine Tm_suc (fun k => by rw [y_X10_addBack]) ?_
      refine Tm_ite (fun q => absurd q (by rw [d2, u_le (by omega) (by omega)]; omega)) (fun _ => ?_)
      refine Tm_chk (u_in (by omega) (by decide)) ?_
      refine Tm_chk (u_in (by omega) (by decide)) ?_
      refine Tm_chk (u_in (by omega) (by decide)) ?_
      refine ih _ _ (WF_t w (WF_A _ (by decide) _ _)) ?_ ?_ ?_
      · show uN (L'.1 4 + 1) + m = _
        rw [u_inc (by omega)]; omega
      · exact d1
      · exact d2
  refine Tm_suc (fun k => by rw [y_X10_addBack]) ?_
  exact b1 (uN (L.1 2)) _ σ (WF_r σ) (by show 0 + _ = _; omega) rfl rfl
theorem c_quotientDigit (n1 : uN (L.1 1) + uN (L.1 2) < 72) : Tm (fun k => y_X10_quotientDigit k 0 L σ) (fun r => WF σ r.2) := by
  have e0 : uN (L.1 1 + L.1 2) = uN (L.1 1) + uN (L.1 2) := u_add (by omega)
  have b13 : ∀ (L' : LV) (σ' : CS), WF σ σ' → Tm (fun k => y_X10_quotientDigit k 13 L' σ') (fun r => WF σ r.2) := by
    intro L' σ' w
    refine Tm_suc (fun k => by rw [y_X10_quotientDigit]) ?_
    exact Tm_some w
  have b11 : ∀ (m : Nat) (L' : LV) (σ' : CS), WF σ σ' → uN (L'.1 17) + m = uN (L.1 2) → L'.1 1 = L.1 1 → L'.1 2 = L.1 2 → Tm (fun k => y_X10_quotientDigit k 11 L' σ') (fun r => WF σ r.2) := by
    intro m
    induction m with
    | zero =>
      intro L' σ' w d4 d1 d2
      refine Tm_suc (fun k => by rw [y_X10_quotientDigit]) ?_
      refine Tm_yes (by rw [d2, u_le (by omega) (by omega)]; omega) ?_
      refine Tm_suc (fun k => by rw [y_X10_quotientDigit]) ?_
      rw [d1, d2]
      refine Tm_chk (u_in (by omega) (by decide)) ?_
      refine Tm_chk (u_in (by omega) (by decide)) ?_
      refine Tm_ite (fun _ => b13 _ _ (WF_t w (WF_A _ (by decide) _ _))) (fun _ => ?_)
      refine Tm_oc (c_addBack n1) (fun r hr => b13 _ _ ?_)
      exact WF_t (WF_t w (WF_A _ (by decide) _ _)) hr
    | succ m ih =>
      intro L' σ' w d4 d1 d2
      have e : uN (L'.1 1 + L'.1 17) = uN (L.1 1) + uN (L'.1 17) := by rw [d1, u_add (by omega)]
      refine Tm_suc (fun k => by rw [y_X10_quotientDigit]) ?_
      refine Tm_ite (fun q => absurd q (by rw [d2, u_le (by omega) (by omega)]; omega)) (fun _ => ?_)
      refine Tm_chk (u_in (by omega) (by decide)) ?_
      refine Tm_chk (u_in (by omega) (by decide)) ?_
      refine Tm_chk (u_in (by omega) (by decide)) ?_
      refine ih _ _ (WF_t w (WF_A _ (by decide) _ _)) ?_ ?_ ?_
      · show uN (L'.1 17 + 1) + m = _
        rw [u_inc (by omega)]; omega
      · exact d1
      · exact d2
  have b9 : ∀ (L' : LV), L'.1 1 = L.1 1 → L'.1 2 = L.1 2 → Tm (fun k => y_X10_quotientDigit k 9 L' σ) (fun r => WF σ r.2) := by
    intro L' d1 d2
    refine Tm_suc (fun k => by rw [y_X10_quotientDigit]) ?_
    refine b11 (uN (L.1 2)) _ σ (WF_r σ) ?_ ?_ ?_
    · show 0 + _ = _; omega
    · exact d1
    · exact d2
  have b8 : ∀ (m : Nat) (L' : LV), uN (L'.1 15) + m = 4 → L'.1 1 = L.1 1 → L'.1 2 = L.1 2 → Tm (fun k => y_X10_quotientDigit k 8 L' σ) (fun r => WF σ r.2) := by
    intro m
    induction m with
    | zero =>
      intro L' d d1 d2
      refine Tm_suc (fun k => by rw [y_X10_quotientDigit]) ?_
      refine Tm_yes (by rw [u_le (by decide) (by omega)]; show 4 ≤ _; omega) (b9 _ d1 d2)
    | succ m ih =>
      intro L' d d1 d2
      have b10 : Tm (fun k => y_X10_quotientDigit k 10 L' σ) (fun r => WF σ r.2) := by
        refine Tm_suc (fun k => by rw [y_X10_quotientDigit]) ?_
        refine ih _ ?_ ?_ ?_
        · show uN (L'.1 15 + 1) + m = 4
          rw [u_inc (by omega)]; omega
        · exact d1
        · exact d2
      refine Tm_suc (fun k => by rw [y_X10_quotientDigit]) ?_
      refine Tm_ite (fun _ => b9 _ d1 d2) (fun _ => ?_)
      refine Tm_ite (fun _ => b9 _ d1 d2) (fun _ => ?_)
      refine Tm_ite (fun _ => b10) (fun _ => ?_)
      exact Tm_ite (fun _ => b9 _ d1 d2) (fun _ => b10)
  have b7 : ∀ (L' : LV), L'.1 1 = L.1 1 → L'.1 2 = L.1 2 → 1 ≤ uN (L.1 2) → ¬ L'.2.1 3 = 0 → Tm (fun k => y_X10_quotientDigit k 7 L' σ) (fun r => WF σ r.2) := by
    intro L' d1 d2 p3 n3
    have e1 : uN (L.1 1 + L.1 2 - 1) = uN (L.1 1) + uN (L.1 2) - 1 := by
      rw [u_sub (by rw [e0]; show 1 ≤ _; omega), e0]; rfl
    refine Tm_suc (fun k => by rw [y_X10_quotientDigit]) ?_
    rw [d1, d2]
    refine Tm_chk (u_in (by omega) (by decide)) ?_
    refine Tm_chk (u_in (by omega) (by decide)) ?_
    refine Tm_chk0 n3 ?_
    refine b8 4 _ ?_ ?_ ?_
    · rfl
    · exact d1
    · exact d2
  have b5 : ∀ (L' : LV), L'.1 1 = L.1 1 → L'.1 2 = L.1 2 → 1 ≤ uN (L.1 2) → ¬ L'.2.1 3 = 0 → Tm (fun k => y_X10_quotientDigit k 5 L' σ) (fun r => WF σ r.2) := by
    intro L' d1 d2 p3 n3
    refine Tm_suc (fun k => by rw [y_X10_quotientDigit]) ?_
    rw [d1, d2]
    refine Tm_ite (fun _ => ?_) (fun c => ?_)
    · refine Tm_suc (fun k => by rw [y_X10_quotientDigit]) ?_
      refine b7 _ ?_ ?_ p3 ?_
      · exact d1
      · exact d2
      · exact n3
    · rw [u_le (by omega) (by decide)] at c
      have c' : 2 ≤ uN (L.1 2) := Nat.lt_of_not_le c
      have e1 : uN (L.1 1 + L.1 2 - 2) = uN (L.1 1) + uN (L.1 2) - 2 := by
        rw [u_sub (by rw [e0]; show 2 ≤ _; omega), e0]; rfl
      refine Tm_chk (u_in (by omega) (by decide)) ?_
      refine b7 _ ?_ ?_ p3 ?_
      · exact d1
      · exact d2
      · exact n3
  have b2 : ∀ (L' : LV), L'.1 1 = L.1 1 → L'.1 2 = L.1 2 → (¬ L'.2.1 100 = 0 → 1 ≤ uN (L.1 2)) → Tm (fun k => y_X10_quotientDigit k 2 L' σ) (fun r => WF σ r.2) := by
    intro L' d1 d2 p3
    refine Tm_suc (fun k => by rw [y_X10_quotientDigit]) ?_
    refine Tm_ite (fun _ => Tm_some (WF_r σ)) (fun c => ?_)
    have n3 := cmp0 c
    have p := p3 n3
    refine Tm_suc (fun k => by rw [y_X10_quotientDigit]) ?_
    refine Tm_ite (fun _ => ?_) (fun c => ?_)
    · refine Tm_suc (fun k => by rw [y_X10_quotientDigit]) ?_
      refine b5 _ ?_ ?_ p ?_
      · exact d1
      · exact d2
      · exact n3
    · have c' : ¬ L'.1 2 ≤ 1 := c
      rw [d2, u_le (by omega) (by decide)] at c'
      have c2 : 2 ≤ uN (L.1 2) := Nat.lt_of_not_le c'
      have e1 : uN (L'.1 2 - 2) = uN (L.1 2) - 2 := by
        rw [d2, u_sub (by show 2 ≤ _; omega)]; rfl
      refine Tm_chk (u_in (by show uN (L'.1 2 - 2) < 72; omega) (by decide)) ?_
      refine b5 _ ?_ ?_ p ?_
      · exact d1
      · exact d2
      · exact n3
  refine Tm_suc (fun k => by rw [y_X10_quotientDigit]) ?_
  refine Tm_ite (fun _ => ?_) (fun c => ?_)
  · refine Tm_suc (fun k => by rw [y_X10_quotientDigit]) ?_
    refine b2 _ rfl rfl (fun z => absurd rfl z)
  · rw [u_le (by omega) (by decide)] at c
    have c' : 1 ≤ uN (L.1 2) := Nat.lt_of_not_le c
    have e1 : uN (L.1 2 - 1) = uN (L.1 2) - 1 := by
      rw [u_sub (by show 1 ≤ _; omega)]; rfl
    refine Tm_chk (u_in (by omega) (by decide)) ?_
    exact b2 _ rfl rfl (fun _ => c')
end CRN
end JnS350
section JnS351
/-! The class: division, digits of a text. -/
section CRO
variable {g g' g2 : Nat → Prop} {l l' : List Nat} {t t' t2 : Nat} {σ σ' σ2 : CS} {L : LV} {x y i : Int32} {M M' : Nat → Int32}
theorem u_subn {x y : Int32} (hx : uN x < uN y) (hy : uN y < 2147483648) : 2147483648 ≤ uN (x - y) := by
  show _ ≤ (x.toBitVec - y.toBitVec).toNat
  rw [BitVec.toNat_sub]
  show 2147483648 ≤ (2 ^ 32 - uN y + uN x) % 2 ^ 32
  omega
theorem c_divideLimbs (n1 : uN (L.1 1) ≤ 32) (m1 : uN (L.1 2) ≤ 32) : Tm (fun k => y_X10_divideLimbs k 0 L σ) (fun r => WF σ r.2) := by
  have en : uN (2 * L.1 1) = 2 * uN (L.1 1) := u_dbl (by omega)
  have em : uN (2 * L.1 2) = 2 * uN (L.1 2) := u_dbl (by omega)
  have en1 : uN (2 * L.1 1 + 1) = 2 * uN (L.1 1) + 1 := by rw [u_inc (by omega), en]
  have b11 : ∀ (m : Nat) (L' : LV) (σ' : CS), WF σ σ' → L'.1 1 = L.1 1 → uN (L'.1 6) + m = 2 * uN (L.1 1) + 1 → Tm (fun k => y_X10_divideLimbs k 11 L' σ') (fun r => WF σ r.2) := by
    intro m
    induction m with
    | zero =>
      intro L' σ' w a1 a6
      refine Tm_suc (fun k => by rw [y_X10_divideLimbs]) ?_
      refine Tm_yes (by rw [a1, u_le (by omega) (by omega)]; omega) ?_
      refine Tm_suc (fun k => by rw [y_X10_divideLimbs]) ?_
      exact Tm_some w
    | succ m ih =>
      intro L' σ' w a1 a6
      have b14 : ∀ L2 : LV, L2.1 1 = L.1 1 → L2.1 6 = L'.1 6 → Tm (fun k => y_X10_divideLimbs k 14 L2 σ') (fun r => WF σ r.2) := by
        intro L2 z1 z6
        refine Tm_suc (fun k => by rw [y_X10_divideLimbs]) ?_
        refine ih _ _ w ?_ ?_
        · exact z1
        · show uN (L2.1 6 + 1) + m = _
          rw [z6, u_inc (by omega)]; omega
      refine Tm_suc (fun k => by rw [y_X10_divideLimbs]) ?_
      refine Tm_ite (fun q => absurd q (by rw [a1, u_le (by omega) (by omega)]; omega)) (fun _ => ?_)
      refine Tm_chk (u_in (by omega) (by decide)) ?_
      refine Tm_ite (fun _ => ?_) (fun _ => b14 _ a1 rfl)
      refine Tm_suc (fun k => by rw [y_X10_divideLimbs]) ?_
      exact b14 _ a1 rfl
  have b10 : ∀ (L' : LV) (σ' : CS), WF σ σ' → L'.1 1 = L.1 1 → uN (L'.1 3) ≤ 64 → Tm (fun k => y_X10_divideLimbs k 10 L' σ') (fun r => WF σ r.2) := by
    intro L' σ' w a1 a3
    refine Tm_suc (fun k => by rw [y_X10_divideLimbs]) ?_
    refine Tm_oc (c_shiftDown (by show uN (L'.1 3) < 72; omega)) (fun r hr => ?_)
    refine b11 (2 * uN (L.1 1) + 1) _ _ (WF_t w hr) ?_ ?_
    · exact a1
    · show 0 + _ = _; omega
  have b9 : ∀ (m : Nat) (L' : LV) (σ' : CS), WF σ σ' → L'.1 1 = L.1 1 → uN (L'.1 3) ≤ 64 → (uN (L'.1 5) + 1 = m ∧ uN (L'.1 5) + uN (L'.1 3) ≤ 64 ∨ (2147483648 ≤ uN (L'.1 5) ∧ m = 0)) → Tm (fun k => y_X10_divideLimbs k 9 L' σ') (fun r => WF σ r.2) := by
    intro m
    induction m with
    | zero =>
      intro L' σ' w a1 a3 a5
      refine Tm_suc (fun k => by rw [y_X10_divideLimbs]) ?_
      exact Tm_yes (by rw [u_neg]; omega) (b10 _ _ w a1 a3)
    | succ m ih =>
      intro L' σ' w a1 a3 a5
      refine Tm_suc (fun k => by rw [y_X10_divideLimbs]) ?_
      refine Tm_ite (fun _ => b10 _ _ w a1 a3) (fun _ => ?_)
      refine Tm_oc (c_quotientDigit (by show uN (L'.1 5) + uN (L'.1 3) < 72; omega)) (fun r hr => ?_)
      refine Tm_chk (u_in (by omega) (by decide)) ?_
      refine ih _ _ (WF_t (WF_t w hr) (WF_A _ (by decide) _ _)) ?_ ?_ ?_
      · exact a1
      · exact a3
      · show uN (L'.1 5 + (-1)) + 1 = m ∧ uN (L'.1 5 + (-1)) + uN (L'.1 3) ≤ 64 ∨ (2147483648 ≤ uN (L'.1 5 + (-1)) ∧ m = 0)
        by_cases c : uN (L'.1 5) = 0
        · right
          rw [show L'.1 5 = 0 from by rw [u_eq, c]; rfl]
          exact ⟨by decide, by omega⟩
        · left
          rw [u_dec (by omega)]; omega
  have b8 : ∀ (L' : LV) (σ' : CS), WF σ σ' → L'.1 1 = L.1 1 → uN (L'.1 3) ≤ 64 → Tm (fun k => y_X10_divideLimbs k 8 L' σ') (fun r => WF σ r.2) := by
    intro L' σ' w a1 a3
    refine Tm_suc (fun k => by rw [y_X10_divideLimbs]) ?_
    rw [a1]
    refine Tm_oc (c_shiftUp8 (by show uN (2 * L.1 1 + 1) ≤ 72; omega)) (fun r1 h1 => ?_)
    refine Tm_oc (c_shiftUp9 (by show uN (L'.1 3) ≤ 72; omega)) (fun r2 h2 => ?_)
    by_cases c : uN (L'.1 3) ≤ 2 * uN (L.1 1)
    · have e : uN (2 * L.1 1 - L'.1 3) = 2 * uN (L.1 1) - uN (L'.1 3) := by rw [u_sub (by omega), en]
      refine b9 (2 * uN (L.1 1) - uN (L'.1 3) + 1) _ _ (WF_t (WF_t w h1) h2) ?_ ?_ ?_
      · exact a1
      · exact a3
      · left
        show uN (2 * L.1 1 - L'.1 3) + 1 = _ ∧ uN (2 * L.1 1 - L'.1 3) + uN (L'.1 3) ≤ 64
        omega
    · refine b9 0 _ _ (WF_t (WF_t w h1) h2) ?_ ?_ ?_
      · exact a1
      · exact a3
      · right
        exact ⟨u_subn (by omega) (by omega), rfl⟩
  have b7 : ∀ (m : Nat) (L' : LV) (σ' : CS), WF σ σ' → L'.1 1 = L.1 1 → uN (L'.1 3) ≤ 64 → uN (L'.1 5) + m = 15 → Tm (fun k => y_X10_divideLimbs k 7 L' σ') (fun r => WF σ r.2) := by
    intro m
    induction m with
    | zero =>
      intro L' σ' w a1 a3 a5
      refine Tm_suc (fun k => by rw [y_X10_divideLimbs]) ?_
      exact Tm_yes (by rw [u_le (by decide) (by omega)]; show 15 ≤ _; omega) (b8 _ _ w a1 a3)
    | succ m ih =>
      intro L' σ' w a1 a3 a5
      refine Tm_suc (fun k => by rw [y_X10_divideLimbs]) ?_
      refine Tm_ite (fun _ => b8 _ _ w a1 a3) (fun _ => ?_)
      refine Tm_ite (fun _ => b8 _ _ w a1 a3) (fun c => ?_)
      rw [u_le (by omega) (by decide)] at c
      have c' : 1 ≤ uN (L'.1 3) := Nat.lt_of_not_le c
      have e : uN (L'.1 3 - 1) = uN (L'.1 3) - 1 := by rw [u_sub (by show 1 ≤ _; omega)]; rfl
      refine Tm_chk (u_in (by omega) (by decide)) ?_
      refine Tm_ite (fun _ => ?_) (fun _ => b8 _ _ w a1 a3)
      refine ih _ _ w ?_ ?_ ?_
      · exact a1
      · exact a3
      · show uN (L'.1 5 + 1) + m = 15
        rw [u_inc (by omega)]; omega
  have b6 : ∀ (L' : LV) (σ' : CS), WF σ σ' → L'.1 1 = L.1 1 → uN (L'.1 3) ≤ 64 → Tm (fun k => y_X10_divideLimbs k 6 L' σ') (fun r => WF σ r.2) := by
    intro L' σ' w a1 a3
    refine Tm_suc (fun k => by rw [y_X10_divideLimbs]) ?_
    refine b7 15 _ _ w ?_ ?_ ?_
    · exact a1
    · exact a3
    · rfl
  have b5 : ∀ (L' : LV) (σ' : CS), WF σ σ' → L'.1 1 = L.1 1 → L'.1 2 = L.1 2 → Tm (fun k => y_X10_divideLimbs k 5 L' σ') (fun r => WF σ r.2) := by
    intro L' σ' w a1 a2
    refine Tm_suc (fun k => by rw [y_X10_divideLimbs]) ?_
    rw [a2]
    refine Tm_ite (fun _ => b6 _ _ w a1 (by show uN (2 * L.1 2) ≤ 64; omega)) (fun c => ?_)
    rw [u_le (by omega) (by decide)] at c
    have c' : 1 ≤ uN (2 * L.1 2) := Nat.lt_of_not_le c
    have e : uN (2 * L.1 2 - 1) = uN (2 * L.1 2) - 1 := by rw [u_sub (by show 1 ≤ _; omega)]; rfl
    refine Tm_chk (u_in (by omega) (by decide)) ?_
    refine Tm_ite (fun _ => b6 _ _ w a1 ?_) (fun _ => b6 _ _ w a1 ?_)
    · show uN (2 * L.1 2 + (-1)) ≤ 64
      rw [u_dec (by omega)]; omega
    · show uN (2 * L.1 2) ≤ 64
      omega
  have b4 : ∀ (m : Nat) (L' : LV) (σ' : CS), WF σ σ' → L'.1 1 = L.1 1 → L'.1 2 = L.1 2 → uN (L'.1 3) + m = uN (L.1 2) → Tm (fun k => y_X10_divideLimbs k 4 L' σ') (fun r => WF σ r.2) := by
    intro m
    induction m with
    | zero =>
      intro L' σ' w a1 a2 a3
      refine Tm_suc (fun k => by rw [y_X10_divideLimbs]) ?_
      exact Tm_yes (by rw [a2, u_le (by omega) (by omega)]; omega) (b5 _ _ w a1 a2)
    | succ m ih =>
      intro L' σ' w a1 a2 a3
      have e2 : uN (2 * L'.1 3) = 2 * uN (L'.1 3) := u_dbl (by omega)
      have e3 : uN (2 * L'.1 3 + 1) = 2 * uN (L'.1 3) + 1 := by rw [u_inc (by omega), e2]
      refine Tm_suc (fun k => by rw [y_X10_divideLimbs]) ?_
      refine Tm_ite (fun q => absurd q (by rw [a2, u_le (by omega) (by omega)]; omega)) (fun _ => ?_)
      refine Tm_chk (u_in (by omega) (by decide)) ?_
      refine Tm_chk (u_in (by omega) (by decide)) ?_
      refine Tm_chk (u_in (by omega) (by decide)) ?_
      refine Tm_chk (u_in (by omega) (by decide)) ?_
      refine ih _ _ (WF_t w (WF_t (WF_A _ (by decide) _ _) (WF_A _ (by decide) _ _))) ?_ ?_ ?_
      · exact a1
      · exact a2
      · show uN (L'.1 3 + 1) + m = _
        rw [u_inc (by omega)]; omega
  have b2 : ∀ (m : Nat) (L' : LV) (σ' : CS), WF σ σ' → L'.1 1 = L.1 1 → L'.1 2 = L.1 2 → uN (L'.1 3) + m = uN (L.1 1) → Tm (fun k => y_X10_divideLimbs k 2 L' σ') (fun r => WF σ r.2) := by
    intro m
    induction m with
    | zero =>
      intro L' σ' w a1 a2 a3
      refine Tm_suc (fun k => by rw [y_X10_divideLimbs]) ?_
      refine Tm_yes (by rw [a1, u_le (by omega) (by omega)]; omega) ?_
      refine Tm_suc (fun k => by rw [y_X10_divideLimbs]) ?_
      refine b4 (uN (L.1 2)) _ _ w ?_ ?_ ?_
      · exact a1
      · exact a2
      · show 0 + _ = _; omega
    | succ m ih =>
      intro L' σ' w a1 a2 a3
      have e2 : uN (2 * L'.1 3) = 2 * uN (L'.1 3) := u_dbl (by omega)
      have e3 : uN (2 * L'.1 3 + 1) = 2 * uN (L'.1 3) + 1 := by rw [u_inc (by omega), e2]
      refine Tm_suc (fun k => by rw [y_X10_divideLimbs]) ?_
      refine Tm_ite (fun q => absurd q (by rw [a1, u_le (by omega) (by omega)]; omega)) (fun _ => ?_)
      refine Tm_chk (u_in (by omega) (by decide)) ?_
      refine Tm_chk (u_in (by omega) (by decide)) ?_
      refine Tm_chk (u_in (by omega) (by decide)) ?_
      refine Tm_chk (u_in (by omega) (by decide)) ?_
      refine ih _ _ (WF_t w (WF_t (WF_A _ (by decide) _ _) (WF_A _ (by decide) _ _))) ?_ ?_ ?_
      · exact a1
      · exact a2
      · show uN (L'.1 3 + 1) + m = _
        rw [u_inc (by omega)]; omega
  refine Tm_suc (fun k => by rw [y_X10_divideLimbs]) ?_
  refine Tm_oc c_fill10 (fun r1 h1 => ?_)
  refine Tm_oc c_fill8 (fun r2 h2 => ?_)
  refine Tm_oc c_fill9 (fun r3 h3 => ?_)
  refine Tm_suc (fun k => by rw [y_X10_divideLimbs]) ?_
  refine b2 (uN (L.1 1)) _ _ (WF_t (WF_t h1 h2) h3) ?_ ?_ ?_
  · rfl
  · rfl
  · show 0 + _ = _; omega
theorem c_divided (h : HQ g l t σ) (hx : W2 g σ (L.1 1)) (hy : W2 g σ (L.1 2)) : Tm (fun k => y_X10_divided k 0 L σ) (Vx g t σ 2) := by
  have b10 : ∀ (L' : LV) (σ' : CS), WF σ σ' → uN (L'.1 101) ≤ 72 → Tm (fun k => y_X10_divided k 10 L' σ') (Vx g t σ 2) := by
    intro L' σ' w d
    refine Tm_suc (fun k => by rw [y_X10_divided]) ?_
    exact Tm_oc (c_made (HQ_W h w) d) (fun r hr => Tm_some (Vx_W h w hr))
  have b8 : ∀ (L' : LV) (σ' : CS), WF σ σ' → L'.1 2 = L.1 2 → uN (L'.1 9) ≤ 72 → Tm (fun k => y_X10_divided k 8 L' σ') (Vx g t σ 2) := by
    intro L' σ' w a2 d
    refine Tm_suc (fun k => by rw [y_X10_divided]) ?_
    refine Tm_oc (c_isBelow (HQ_W h w) (by show Gv g (L'.1 2); rw [a2]; exact hy.1)) (fun r1 h1 => ?_)
    have e1 : r1.2 = σ' := h1.1
    rw [e1]
    refine Tm_ite (fun _ => ?_) (fun _ => b10 _ _ w d)
    refine Tm_suc (fun k => by rw [y_X10_divided]) ?_
    exact b10 _ _ w d
  have b6 : ∀ (L' : LV) (σ' : CS), WF σ σ' → uN (L'.1 5) ≤ 32 → Tm (fun k => y_X10_divided k 6 L' σ') (Vx g t σ 2) := by
    intro L' σ' w d
    refine Tm_suc (fun k => by rw [y_X10_divided]) ?_
    exact Tm_oc (c_made (HQ_W h w) (by show uN (L'.1 5) ≤ 72; omega)) (fun r hr => Tm_some (Vx_W h w hr))
  have b7 : ∀ (L' : LV) (σ' : CS), WF σ σ' → L'.1 2 = L.1 2 → uN (L'.1 5) ≤ 32 → Tm (fun k => y_X10_divided k 7 L' σ') (Vx g t σ 2) := by
    intro L' σ' w a2 d
    refine Tm_suc (fun k => by rw [y_X10_divided]) ?_
    refine Tm_chk ⟨by decide, by decide, by rw [u_neg]; omega, by rw [u_cl (x := L'.1 5) (by omega)]; show 0 + _ ≤ 72; omega, by rw [u_cl (x := L'.1 5) (by omega)]; show 0 + _ ≤ 72; omega⟩ ?_
    have w1 := WF_t w (WF_F σ' (k := 5) (by decide) (va_cpy (σ'.2.2.1 7) (σ'.2.2.1 5) (0 : Int32).toNatClampNeg (0 : Int32).toNatClampNeg (L'.1 5).toNatClampNeg))
    have q : W2 g _ (L'.1 2) := W2_W w1 (by rw [a2]; exact hy)
    refine Tm_oc (c_load6 (HQ_W h w1) q.1 (fun c => W2_h q c)) (fun r2 h2 => ?_)
    refine Tm_oc (c_restLimbs (by show uN (L'.1 5) ≤ 72; omega)) (fun r3 h3 => ?_)
    have e3 : r3.2 = r2.2 := h3.1
    rw [e3]
    refine Tm_oc (c_takeLimbs6 (by show uN (L'.1 5) ≤ 72; omega) h3.2) (fun r4 h4 => ?_)
    have w4 := WF_t (WF_t w1 h2.1) h4.1
    refine Tm_oc (c_made (HQ_W h w4) (by show uN r4.1 ≤ 72; rw [h4.2]; show uN (L'.1 5) ≤ 72; omega)) (fun r hr => Tm_some (Vx_W h w4 hr))
  have b5 : ∀ (L' : LV) (σ' : CS), WF σ σ' → L'.1 2 = L.1 2 → uN (L'.1 4) ≤ 32 → Tm (fun k => y_X10_divided k 5 L' σ') (Vx g t σ 2) := by
    intro L' σ' w a2 d
    refine Tm_suc (fun k => by rw [y_X10_divided]) ?_
    refine Tm_oc (c_unpackQuotient (by show uN (L'.1 4) ≤ 36; omega)) (fun r1 h1 => ?_)
    have e1 : uN r1.1 ≤ 32 := by rw [h1.2]; exact d
    have w1 := WF_t w h1.1
    refine Tm_ite (fun _ => ?_) (fun _ => Tm_ite (fun _ => ?_) (fun _ => ?_))
    · exact b8 _ _ w1 a2 (by show uN r1.1 ≤ 72; omega)
    · refine Tm_oc (c_addOne (by show uN r1.1 < 72; omega)) (fun r4 h4 => ?_)
      exact b8 _ _ (WF_t w1 h4.1) a2 h4.2
    · exact b8 _ _ w1 a2 (by show uN r1.1 ≤ 72; omega)
  have b4 : ∀ (L' : LV) (σ' : CS), WF σ σ' → L'.1 2 = L.1 2 → uN (L'.1 4) ≤ 32 → uN (L'.1 5) ≤ 32 → Tm (fun k => y_X10_divided k 4 L' σ') (Vx g t σ 2) := by
    intro L' σ' w a2 d4 d5
    refine Tm_suc (fun k => by rw [y_X10_divided]) ?_
    refine Tm_ite (fun _ => b5 _ _ w a2 d4) (fun _ => ?_)
    refine Tm_oc (c_unpackRest (by show uN (L'.1 5) ≤ 36; omega)) (fun r1 h1 => ?_)
    have w1 := WF_t w h1.1
    refine Tm_ite (fun _ => b6 _ _ w1 d5) (fun _ => Tm_ite (fun _ => b7 _ _ w1 a2 d5) (fun _ => b6 _ _ w1 d5))
  have b2 : Tm (fun k => y_X10_divided k 2 L σ) (Vx g t σ 2) := by
    refine Tm_suc (fun k => by rw [y_X10_divided]) ?_
    refine Tm_oc (c_load5 h hx.1 (fun c => W2_h hx c)) (fun r1 h1 => ?_)
    have q1 := W2_W h1.1 hy
    refine Tm_oc (c_load6 (HQ_W h h1.1) q1.1 (fun c => W2_h q1 c)) (fun r2 h2 => ?_)
    have w2 := WF_t h1.1 h2.1
    refine Tm_oc (c_isBelow (HQ_W h w2) hx.1) (fun r3 h3 => ?_)
    have e3 : r3.2 = r2.2 := h3.1
    rw [e3]
    refine Tm_oc (c_divideLimbs h1.2 h2.2) (fun r4 h4 => ?_)
    have w4 := WF_t w2 h4
    refine Tm_ite (fun _ => ?_) (fun _ => ?_)
    · exact b4 _ _ w4 rfl h1.2 h2.2
    · refine Tm_suc (fun k => by rw [y_X10_divided]) ?_
      exact b4 _ _ w4 rfl h1.2 h2.2
  refine Tm_suc (fun k => by rw [y_X10_divided]) ?_
  refine Tm_ite (fun _ => Tm_some (Vx_raw h (WF_r σ) (by show 4026531840 ≤ uN (-268435454) ∧ ¬ uN (-268435454) % 16 = 0; decide))) (fun _ => ?_)
  refine Tm_suc (fun k => by rw [y_X10_divided]) ?_
  refine Tm_ite (fun _ => b2) (fun _ => Tm_ite (fun _ => b2) (fun _ => ?_))
  refine Tm_oc c_number (fun r1 h1 => ?_)
  have e1 : r1.2 = σ := h1
  rw [e1]
  refine Tm_oc c_number (fun r2 h2 => ?_)
  have e2 : r2.2 = σ := h2
  rw [e2]
  exact Tm_oc (c_dividedSmall h) (fun r hr => Tm_some hr)
theorem c_resultLimb (d : uN (σ.1 404) ≤ 72) : Tm (fun k => y_X10_resultLimb k 0 L σ) (Qs σ) := by
  have b2 : ∀ L' : LV, Tm (fun k => y_X10_resultLimb k 2 L' σ) (Qs σ) := by
    intro L'
    refine Tm_suc (fun k => by rw [y_X10_resultLimb]) ?_
    exact Tm_some rfl
  have b1 : ∀ L' : LV, Tm (fun k => y_X10_resultLimb k 1 L' σ) (Qs σ) := by
    intro L'
    refine Tm_suc (fun k => by rw [y_X10_resultLimb]) ?_
    exact b2 _
  refine Tm_suc (fun k => by rw [y_X10_resultLimb]) ?_
  refine Tm_ite (fun _ => b1 _) (fun c => Tm_ite (fun _ => b1 _) (fun c2 => ?_))
  rw [u_neg] at c
  rw [u_le (by omega) (by omega)] at c2
  refine Tm_chk (u_in (by omega) (by decide)) ?_
  exact b2 _
theorem c_readDigits (hn : sN σ 38 ≤ 2147483648) (hs : uN (L.1 2) ≤ uN (L.1 3)) (he : uN (L.1 3) < 2147483648) (he2 : uN (L.1 3) ≤ sN σ 38) : Tm (fun k => y_X10_readDigits__z38 k 0 L σ) (fun r => WF σ r.2 ∧ uN r.1 ≤ 32 ∧ r.2.1 404 = r.1) := by
  have b1 : ∀ (m : Nat) (L' : LV) (σ' : CS), WF σ σ' → L'.1 3 = L.1 3 → uN (L'.1 5) + m = uN (L.1 3) → uN (L'.1 4) ≤ 32 → Tm (fun k => y_X10_readDigits__z38 k 1 L' σ') (fun r => WF σ r.2 ∧ uN r.1 ≤ 32 ∧ r.2.1 404 = r.1) := by
    intro m
    induction m with
    | zero =>
      intro L' σ' w a3 a5 a4
      refine Tm_suc (fun k => by rw [y_X10_readDigits__z38]) ?_
      refine Tm_yes (by rw [a3, u_le (by omega) (by omega)]; omega) ?_
      refine Tm_suc (fun k => by rw [y_X10_readDigits__z38]) ?_
      refine Tm_some ⟨⟨fun j hj => ?_, w.2.1, w.2.2.1, w.2.2.2⟩, a4, rfl⟩
      show upd σ'.1 404 _ j = σ.1 j
      rw [upd_other hj]
      exact w.1 j hj
    | succ m ih =>
      intro L' σ' w a3 a5 a4
      have b5 : ∀ (L2 : LV) (σ2 : CS), WF σ σ2 → L2.1 3 = L.1 3 → L2.1 5 = L'.1 5 → uN (L2.1 4) ≤ 32 → Tm (fun k => y_X10_readDigits__z38 k 5 L2 σ2) (fun r => WF σ r.2 ∧ uN r.1 ≤ 32 ∧ r.2.1 404 = r.1) := by
        intro L2 σ2 w z3 z5 z4
        refine Tm_suc (fun k => by rw [y_X10_readDigits__z38]) ?_
        refine ih _ _ w ?_ ?_ ?_
        · exact z3
        · show uN (L2.1 5 + 1) + m = _
          rw [z5, u_inc (by omega)]; omega
        · exact z4
      have b3 : ∀ (d : Nat) (L2 : LV) (σ2 : CS), WF σ σ2 → L2.1 3 = L.1 3 → L2.1 5 = L'.1 5 → L2.1 4 = L'.1 4 → uN (L2.1 8) + d = uN (L'.1 4) → Tm (fun k => y_X10_readDigits__z38 k 3 L2 σ2) (fun r => WF σ r.2 ∧ uN r.1 ≤ 32 ∧ r.2.1 404 = r.1) := by
        intro d
        induction d with
        | zero =>
          intro L2 σ2 w z3 z5 z4 z8
          refine Tm_suc (fun k => by rw [y_X10_readDigits__z38]) ?_
          refine Tm_yes (by rw [z4, u_le (by omega) (by omega)]; omega) ?_
          refine Tm_suc (fun k => by rw [y_X10_readDigits__z38]) ?_
          refine Tm_ite (fun _ => b5 _ _ w z3 z5 (by rw [z4]; exact a4)) (fun _ => Tm_ite (fun _ => b5 _ _ w z3 z5 (by rw [z4]; exact a4)) (fun c => ?_))
          rw [z4, u_le (by decide) (by omega)] at c
          have c' : uN (L'.1 4) < 32 := Nat.lt_of_not_le c
          refine Tm_chk (u_in (by rw [z4]; omega) (by decide)) ?_
          refine b5 _ _ (WF_t w (WF_A _ (by decide) _ _)) ?_ ?_ ?_
          · exact z3
          · exact z5
          · show uN (L2.1 4 + 1) ≤ 32
            rw [z4, u_inc (by omega)]; omega
        | succ d jh =>
          intro L2 σ2 w z3 z5 z4 z8
          refine Tm_suc (fun k => by rw [y_X10_readDigits__z38]) ?_
          refine Tm_ite (fun q => absurd q (by rw [z4, u_le (by omega) (by omega)]; omega)) (fun _ => ?_)
          refine Tm_chk (u_in (by omega) (by decide)) ?_
          refine Tm_chk (u_in (by omega) (by decide)) ?_
          refine jh _ _ (WF_t w (WF_A _ (by decide) _ _)) ?_ ?_ ?_ ?_
          · exact z3
          · exact z5
          · exact z4
          · show uN (L2.1 8 + 1) + d = _
            rw [u_inc (by omega)]; omega
      have e38 : sN σ' 38 = sN σ 38 := by show σ'.2.2.2.2.1 38 = σ.2.2.2.2.1 38; rw [w.2.2.2]
      refine Tm_suc (fun k => by rw [y_X10_readDigits__z38]) ?_
      refine Tm_ite (fun q => absurd q (by rw [a3, u_le (by omega) (by omega)]; omega)) (fun _ => ?_)
      refine Tm_chk (u_in (by omega) (by omega)) ?_
      refine b3 (uN (L'.1 4)) _ _ w ?_ ?_ ?_ ?_
      · exact a3
      · rfl
      · rfl
      · show 0 + _ = _; omega
  refine Tm_suc (fun k => by rw [y_X10_readDigits__z38]) ?_
  refine b1 (uN (L.1 3) - uN (L.1 2)) _ σ (WF_r σ) rfl ?_ ?_
  · show uN (L.1 2) + _ = _; omega
  · show uN 0 ≤ 32; decide
end CRO
end JnS351
section JnS352
/-! The class: billions of a whole. -/
/-- what limbs say -/
def lvC (f : Nat → Int32) : Nat → Nat
  | 0 => 0
  | n + 1 => lvC f n + uN (f n) * 4294967296 ^ n
theorem lvC_lt (f : Nat → Int32) : ∀ n, lvC f n < 4294967296 ^ n
  | 0 => Nat.zero_lt_one
  | n + 1 => by
    have a := lvC_lt f n
    have b := u_lt (f n)
    show lvC f n + uN (f n) * 4294967296 ^ n < 4294967296 ^ (n + 1)
    have c : uN (f n) * 4294967296 ^ n + 4294967296 ^ n ≤ 4294967296 ^ (n + 1) := by
      rw [Nat.pow_succ, Nat.mul_comm (4294967296 ^ n) 4294967296, ← Nat.succ_mul]
      exact Nat.mul_le_mul_right _ b
    omega
theorem lvC_hi {f : Nat → Int32} {i : Nat} {q : Int32} : ∀ n, n ≤ i → lvC (upd f i q) n = lvC f n
  | 0, _ => rfl
  | n + 1, h => by
    show lvC (upd f i q) n + uN (upd f i q n) * _ = lvC f n + uN (f n) * _
    rw [lvC_hi n (by omega), upd_other (by omega)]
theorem lvC_up {f : Nat → Int32} {i : Nat} {q : Int32} : ∀ n, i < n → lvC (upd f i q) n + uN (f i) * 4294967296 ^ i = lvC f n + uN q * 4294967296 ^ i
  | 0, h => absurd h (by omega)
  | n + 1, h => by
    show lvC (upd f i q) n + uN (upd f i q n) * 4294967296 ^ n + uN (f i) * 4294967296 ^ i = lvC f n + uN (f n) * 4294967296 ^ n + uN q * 4294967296 ^ i
    by_cases c : i = n
    · rw [lvC_hi n (by omega), c, upd_same]
      omega
    · have a := lvC_up (f := f) (i := i) (q := q) n (by omega)
      rw [upd_other (Ne.symm c)]
      omega
theorem jb_lim (l : Int32) : (l.toInt64 &&& 4294967295).toBitVec.toNat = uN l := by
  show (l.toBitVec.signExtend 64 &&& 4294967295#64).toNat = _
  rw [BitVec.toNat_and]
  show (l.toBitVec.signExtend 64).toNat &&& 4294967295 = _
  rw [show (4294967295 : Nat) = 2 ^ 32 - 1 from rfl, Nat.and_two_pow_sub_one_eq_mod, BitVec.toNat_signExtend, BitVec.toNat_setWidth]
  have b := u_lt l
  show (uN l % 2 ^ 64 + _) % 2 ^ 32 = uN l
  split <;> omega
theorem jb_d {r : Int64} {R : Nat} (hr : r.toBitVec.toNat = R) (h : R < 1073741824) (l : Int32) : ((r <<< ((32 : Int32).toInt64 &&& 63)) ||| (l.toInt64 &&& 4294967295)).toBitVec.toNat = R * 4294967296 + uN l := by
  have b := u_lt l
  show ((r.toBitVec <<< (((32 : Int32).toInt64 &&& 63).toBitVec.smod 64)) ||| (l.toInt64 &&& 4294967295).toBitVec).toNat = _
  rw [BitVec.toNat_or, BitVec.shiftLeft_eq', BitVec.toNat_shiftLeft, show (((32 : Int32).toInt64 &&& 63).toBitVec.smod 64).toNat = 32 from by decide, jb_lim, hr, Nat.shiftLeft_eq, Nat.mod_eq_of_lt (by omega), ← Nat.shiftLeft_eq, ← Nat.shiftLeft_add_eq_or_of_lt (by omega), Nat.shiftLeft_eq]
theorem jb_int {x : Int64} {n : Nat} (h : x.toBitVec.toNat = n) (hn : n < 9223372036854775808) : x.toInt = (n : Int) := by
  show x.toBitVec.toInt = _
  rw [BitVec.toInt_eq_toNat_of_lt (by omega), h]
theorem jb_nat {x : Int64} {n : Nat} (h : x.toInt = (n : Int)) : x.toBitVec.toNat = n := by
  have e : x.toBitVec.toInt = (n : Int) := h
  rw [BitVec.toInt_eq_toNat_cond] at e
  have b := x.toBitVec.isLt
  split at e <;> omega
theorem jb_32 {x : Int64} {n : Nat} (h : x.toBitVec.toNat = n) (hn : n < 4294967296) : uN x.toInt32 = n := by
  show (x.toBitVec.signExtend 32).toNat = n
  rw [BitVec.signExtend_eq_setWidth_of_le _ (by decide), BitVec.toNat_setWidth, h]
  exact Nat.mod_eq_of_lt hn
/-- one limb of a division -/
theorem jb_step {d : Int64} {D : Nat} (hd : d.toBitVec.toNat = D) (h : D < 4294967296000000000) : uN ((d / 1000000000).toInt32) = D / 1000000000 ∧ (d - d / 1000000000 * 1000000000).toBitVec.toNat = D % 1000000000 := by
  have hx := jb_int hd (by omega)
  have eB : (1000000000 : Int64).toInt = ((1000000000 : Nat) : Int) := rfl
  have e1 : (d / 1000000000).toInt = ((D / 1000000000 : Nat) : Int) := by
    rw [Int64.toInt_div, hx, eB, Int.tdiv_eq_ediv_of_nonneg (by omega), ← Int.natCast_ediv]
    exact Int.bmod_eq_of_le (by omega) (by omega)
  have e2 : (d / 1000000000 * 1000000000).toInt = ((D / 1000000000 * 1000000000 : Nat) : Int) := by
    rw [Int64.toInt_mul, e1, eB, ← Int.natCast_mul]
    exact Int.bmod_eq_of_le (by omega) (by omega)
  have e3 : (d - d / 1000000000 * 1000000000).toInt = ((D % 1000000000 : Nat) : Int) := by
    rw [Int64.toInt_sub, e2, hx, show (D : Int) - ((D / 1000000000 * 1000000000 : Nat) : Int) = ((D % 1000000000 : Nat) : Int) by omega]
    exact Int.bmod_eq_of_le (by omega) (by omega)
  exact ⟨jb_32 (jb_nat e1) (by omega), jb_nat e3⟩
section CRP
variable {g g' g2 : Nat → Prop} {l l' : List Nat} {t t' t2 : Nat} {σ σ' σ2 : CS} {L : LV} {x y i : Int32} {M M' : Nat → Int32}
theorem tb_1 {n v : Nat} (n1 : n ≤ 72) : ∀ (i : Nat) (L : LV) (f : Nat → Int32) (R W : Nat), (uN (L.1 4) + 1 = i ∨ (2147483648 ≤ uN (L.1 4) ∧ i = 0)) → i ≤ n → (L.2.1 2).toBitVec.toNat = R → R < 1000000000 → lvC f n = lvC f i + W → lvC f i + R * 4294967296 ^ i + 1000000000 * W = v → Tm (fun k => y_X10_takeBillion k 1 L (uF σ 5 f)) (fun r => ∃ f', r.2 = uF σ 5 f' ∧ lvC f' n = v / 1000000000) := by
  intro i
  induction i with
  | zero =>
    intro L f R W d4 hi d2 hR e1 e2
    refine Tm_suc (fun k => by rw [y_X10_takeBillion]) ?_
    refine Tm_yes (by rw [u_neg]; omega) ?_
    refine Tm_suc (fun k => by rw [y_X10_takeBillion]) ?_
    refine Tm_some ⟨f, rfl, ?_⟩
    have a : lvC f 0 = 0 := rfl
    rw [a] at e1 e2
    rw [Nat.pow_zero] at e2
    omega
  | succ i ih =>
    intro L f R W d4 hi d2 hR e1 e2
    have d4' : uN (L.1 4) = i := by omega
    refine Tm_suc (fun k => by rw [y_X10_takeBillion]) ?_
    refine Tm_ite (fun c => absurd c (by rw [u_neg]; omega)) (fun _ => ?_)
    refine Tm_chk (u_in (by omega) (by decide)) ?_
    refine Tm_chk0 (by decide) ?_
    refine Tm_chk (u_in (by omega) (by decide)) ?_
    refine Tm_chk0 (by decide) ?_
    rw [u_cl (x := L.1 4) (by omega), d4', uF_a]
    have ef : (uF σ 5 f).2.2.1 5 i = f i := rfl
    rw [ef]
    have ul := u_lt (f i)
    obtain ⟨q1, q2⟩ := jb_step (jb_d d2 (by omega) (f i)) (by omega)
    have dm := Nat.div_add_mod (R * 4294967296 + uN (f i)) 1000000000
    have ml : (R * 4294967296 + uN (f i)) % 1000000000 < 1000000000 := Nat.mod_lt _ (by decide)
    have up := lvC_up (f := f) (i := i) (q := (((L.2.1 2 <<< ((32 : Int32).toInt64 &&& 63)) ||| ((f i).toInt64 &&& 4294967295)) / 1000000000).toInt32) n (by omega)
    have s1 : lvC f (i + 1) = lvC f i + uN (f i) * 4294967296 ^ i := rfl
    refine ih _ _ ((R * 4294967296 + uN (f i)) % 1000000000) (W + (R * 4294967296 + uN (f i)) / 1000000000 * 4294967296 ^ i) ?_ (by omega) ?_ ml ?_ ?_
    · show uN (L.1 4 + (-1)) + 1 = i ∨ (2147483648 ≤ uN (L.1 4 + (-1)) ∧ i = 0)
      by_cases c : uN (L.1 4) = 0
      · right
        rw [show L.1 4 = 0 from by rw [u_eq, c]; rfl]
        exact ⟨by decide, by omega⟩
      · left
        rw [u_dec (by omega)]; omega
    · exact q2
    · rw [lvC_hi i (by omega)]
      rw [q1] at up
      omega
    · rw [lvC_hi i (by omega)]
      generalize hD : (R * 4294967296 + uN (f i)) / 1000000000 = Q at dm
      generalize hM : (R * 4294967296 + uN (f i)) % 1000000000 = Z at dm
      have a1 : (R * 4294967296 + uN (f i)) * 4294967296 ^ i = R * 4294967296 ^ (i + 1) + uN (f i) * 4294967296 ^ i := by
        rw [Nat.add_mul, Nat.pow_succ, Nat.mul_assoc, Nat.mul_comm 4294967296 (4294967296 ^ i)]
      rw [← dm, Nat.add_mul, Nat.mul_assoc] at a1
      rw [Nat.mul_add]
      omega
theorem c_takeBillion {n : Nat} (n1 : n ≤ 72) (hn : uN (L.1 1) = n) : Tm (fun k => y_X10_takeBillion k 0 L σ) (fun r => ∃ f', r.2 = uF σ 5 f' ∧ lvC f' n = lvC (σ.2.2.1 5) n / 1000000000) := by
  refine Tm_suc (fun k => by rw [y_X10_takeBillion]) ?_
  have q := tb_1 (σ := σ) (n := n) (v := lvC (σ.2.2.1 5) n) n1 n (lI (lJ L 2 0) 4 (L.1 1 - 1)) (σ.2.2.1 5) 0 0 (by
    show uN (L.1 1 - 1) + 1 = n ∨ (2147483648 ≤ uN (L.1 1 - 1) ∧ n = 0)
    by_cases c : uN (L.1 1) = 0
    · right
      rw [show L.1 1 = 0 from by rw [u_eq, c]; rfl]
      exact ⟨by decide, by omega⟩
    · left
      rw [u_sub (by show 1 ≤ _; omega)]
      show uN (L.1 1) - 1 + 1 = n
      omega) (Nat.le_refl _) rfl (by decide) rfl (by rw [Nat.zero_mul]; rfl)
  rw [uF_id] at q
  exact q
end CRP
end JnS352
