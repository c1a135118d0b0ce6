/-! The class: wholes. -/
section CRL
variable {g g' g2 : Nat → Prop} {l l' : List Nat} {t t' t2 : Nat} {σ σ' σ2 : CS} {L : LV} {x y i : Int32} {M M' : Nat → Int32}
/-- what work on wholes may write -/
def WF (σ σ' : CS) : Prop := (∀ j, ¬ j = 404 → σ'.1 j = σ.1 j) ∧ σ'.2.1 = σ.2.1 ∧ (∀ k, ¬ (5 ≤ k ∧ k ≤ 11) → σ'.2.2.1 k = σ.2.2.1 k) ∧ σ'.2.2.2 = σ.2.2.2
theorem WF_r (σ : CS) : WF σ σ := ⟨fun _ _ => rfl, rfl, fun _ _ => rfl, rfl⟩
theorem WF_t (a : WF σ σ') (b : WF σ' σ2) : WF σ σ2 := ⟨fun j hj => (b.1 j hj).trans (a.1 j hj), b.2.1.trans a.2.1, fun k hk => (b.2.2.1 k hk).trans (a.2.2.1 k hk), b.2.2.2.trans a.2.2.2⟩
theorem WF_F (σ : CS) {k : Nat} (hk : 5 ≤ k ∧ k ≤ 11) (f : Nat → Int32) : WF σ (uF σ k f) := ⟨fun _ _ => rfl, rfl, fun j hj => if_neg (fun e => hj (by rw [e]; exact hk)), rfl⟩
theorem WF_A (σ : CS) {k : Nat} (hk : 5 ≤ k ∧ k ≤ 11) (i : Nat) (x : Int32) : WF σ (uA σ k i x) := WF_F σ hk _
theorem HQ_W (h : HQ g l t σ) (w : WF σ σ') : HQ g l t σ' := HQ_fr h (w.1 1 (by decide)) (w.2.2.1 3 (by decide)) (by rw [w.2.2.2])
/-- what work on values may write besides its own rows -/
def VWc (σ σ' : CS) : Prop := (∀ j, ¬ (j = 1 ∨ j = 404) → σ'.1 j = σ.1 j) ∧ σ'.2.1 = σ.2.1 ∧ (∀ k, ¬ (k = 3 ∨ (5 ≤ k ∧ k ≤ 11)) → σ'.2.2.1 k = σ.2.2.1 k) ∧ σ'.2.2.2 = σ.2.2.2
theorem VWc_t (a : VWc σ σ') (b : VWc σ' σ2) : VWc σ σ2 := ⟨fun j hj => (b.1 j hj).trans (a.1 j hj), b.2.1.trans a.2.1, fun k hk => (b.2.2.1 k hk).trans (a.2.2.1 k hk), b.2.2.2.trans a.2.2.2⟩
theorem VWc_W (w : WF σ σ') : VWc σ σ' := ⟨fun j hj => w.1 j (fun e => hj (Or.inr e)), w.2.1, fun k hk => w.2.2.1 k (fun e => hk (Or.inr e)), w.2.2.2⟩
theorem VWc_h (σ : CS) (t : Nat) (M : Nat → Int32) : VWc σ (hpC σ t M) := ⟨fun j hj => upd_other (fun e => hj (Or.inl e)), rfl, fun k hk => if_neg (fun e => hk (Or.inl e)), rfl⟩
/-- the heap grows -/
def Gr (g : Nat → Prop) (t : Nat) (σ : CS) (g' : Nat → Prop) (l' : List Nat) (t' : Nat) (σ' : CS) : Prop := HQ g' l' t' σ' ∧ (∀ p, g p → g' p) ∧ (∀ p, p < t → σ'.2.2.1 3 p = σ.2.2.1 3 p) ∧ t ≤ t' ∧ VWc σ σ'
theorem Gr_t {l2 : List Nat} (a : Gr g t σ g' l' t' σ') (b : Gr g' t' σ' g2 l2 t2 σ2) : Gr g t σ g2 l2 t2 σ2 := by
  have q := a.2.2.2.1
  exact ⟨b.1, fun p hp => b.2.1 p (a.2.1 p hp), fun p hp => (b.2.2.1 p (by omega)).trans (a.2.2.1 p hp), Nat.le_trans a.2.2.2.1 b.2.2.2.1, VWc_t a.2.2.2.2 b.2.2.2.2⟩
theorem Gr_W (h : HQ g l t σ) (w : WF σ σ') : Gr g t σ g l t σ' := ⟨HQ_W h w, fun _ z => z, fun p _ => by rw [w.2.2.1 3 (by decide)], Nat.le_refl _, VWc_W w⟩
/-- what work on values answers -/
def Vx (g : Nat → Prop) (t : Nat) (σ : CS) (kd : Nat) (r : Int32 × CS) : Prop := ∃ (g' : Nat → Prop) (l' : List Nat) (t' : Nat), Gr g t σ g' l' t' r.2 ∧ ((Gv g' r.1 ∧ kdC (r.2.2.2.1 3) r.1 = kd) ∨ Rw r.1)
theorem Vx_M {r : Int32 × CS} {kd : Nat} (m : Mk g t σ kd r) : Vx g t σ kd r := by
  obtain ⟨g', l', t', M', e, h, a, b, c, d⟩ := m
  refine ⟨g', l', t', ⟨h, a, ?_, c, ?_⟩, ?_⟩
  · rw [e]; exact b
  · rw [e]; exact VWc_h _ _ _
  · rw [e]; exact d
theorem Vx_t {r : Int32 × CS} {kd : Nat} (a : Gr g t σ g' l' t' σ') (b : Vx g' t' σ' kd r) : Vx g t σ kd r := by
  obtain ⟨g2, l2, t2, q, z⟩ := b
  exact ⟨g2, l2, t2, Gr_t a q, z⟩
theorem Vx_W {r : Int32 × CS} {kd : Nat} (h : HQ g l t σ) (w : WF σ σ') (b : Vx g t σ' kd r) : Vx g t σ kd r := Vx_t (Gr_W h w) b
theorem Vx_i (h : HQ g l t σ) (w : WF σ σ') {v : Int32} {kd : Nat} (hv : 2147483648 ≤ uN v ∧ uN v < 3489660928) (hk : uN v / 268435456 % 8 = kd) : Vx g t σ kd (v, σ') := by
  refine ⟨g, l, t, Gr_W h w, Or.inl ⟨Or.inl ⟨hv.1, Or.inl hv.2⟩, ?_⟩⟩
  show kdC _ v = kd
  unfold kdC
  rw [if_neg (by omega)]
  exact hk
/-- a value in a heap that grew -/
theorem kdC_gr (h : HQ g l t σ) (a : Gr g t σ g' l' t' σ') (hx : Gv g x) : kdC (σ'.2.2.1 3) x = kdC (σ.2.2.1 3) x := by
  unfold kdC
  split
  · rename_i c
    rw [a.2.2.1 _ (HQ_c h (Gv_c hx c).2).1]
  · rfl
theorem u_small (x : Int32) : uN (-1610612736 ||| (x &&& 268435455)) = 2684354560 + uN x % 268435456 := by
  rw [u_orB (k := 28) (a := 10) (by rw [u_and28, u_n (by omega)]; omega) (by decide), u_and28, u_n (by omega)]; rfl
theorem c_small : Tm (fun k => y_X10_small k 0 L σ) (fun r => r.2 = σ ∧ (2684354560 ≤ uN r.1 ∧ uN r.1 < 2952790016)) := by
  refine Tm_suc (fun k => by rw [y_X10_small]) ?_
  refine Tm_some ⟨rfl, ?_⟩
  show 2684354560 ≤ uN (-1610612736 ||| (L.1 0 &&& 268435455)) ∧ uN (-1610612736 ||| (L.1 0 &&& 268435455)) < 2952790016
  rw [u_small]
  omega
theorem c_of (h : HQ g l t σ) : Tm (fun k => y_X10_of k 0 L σ) (Vx g t σ 2) := by
  have b7 : ∀ (L' : LV) (σ' : CS), WF σ σ' → (1 ≤ uN (L'.1 101) ∧ uN (L'.1 101) ≤ 2) → Tm (fun k => y_X10_of k 7 L' σ') (Vx g t σ 2) := by
    intro L' σ' w d
    refine Tm_suc (fun k => by rw [y_X10_of]) ?_
    exact Tm_oc (c_makeWhole (HQ_W h w) d.1 (by show uN (L'.1 101) < _; omega)) (fun r hr => Tm_some (Vx_W h w (Vx_M hr)))
  have b5 : ∀ (L' : LV) (σ' : CS), WF σ σ' → (1 ≤ uN (L'.1 100) ∧ uN (L'.1 100) ≤ 2) → Tm (fun k => y_X10_of k 5 L' σ') (Vx g t σ 2) := by
    intro L' σ' w d
    refine Tm_suc (fun k => by rw [y_X10_of]) ?_
    refine Tm_ite (fun _ => ?_) (fun _ => ?_)
    · refine Tm_suc (fun k => by rw [y_X10_of]) ?_
      exact b7 _ _ w d
    · exact b7 _ _ w d
  have b3 : ∀ L' : LV, Tm (fun k => y_X10_of k 3 L' σ) (Vx g t σ 2) := by
    intro L'
    refine Tm_suc (fun k => by rw [y_X10_of]) ?_
    refine Tm_chk (by decide) ?_
    refine Tm_chk (by decide) ?_
    refine Tm_chk (by decide) ?_
    refine Tm_ite (fun _ => ?_) (fun _ => ?_)
    · exact b5 _ _ (WF_t (WF_A σ (by decide) _ _) (WF_A _ (by decide) _ _)) ⟨by show 1 ≤ uN 1; decide, by show uN 1 ≤ 2; decide⟩
    · refine Tm_suc (fun k => by rw [y_X10_of]) ?_
      exact b5 _ _ (WF_t (WF_A σ (by decide) _ _) (WF_A _ (by decide) _ _)) ⟨by show 1 ≤ uN 2; decide, by show uN 2 ≤ 2; decide⟩
  have b1 : ∀ L' : LV, Tm (fun k => y_X10_of k 1 L' σ) (Vx g t σ 2) := by
    intro L'
    refine Tm_suc (fun k => by rw [y_X10_of]) ?_
    refine Tm_ite (fun _ => ?_) (fun _ => ?_)
    · refine Tm_suc (fun k => by rw [y_X10_of]) ?_
      exact b3 _
    · exact b3 _
  refine Tm_suc (fun k => by rw [y_X10_of]) ?_
  refine Tm_ite (fun _ => b1 _) (fun _ => Tm_ite (fun _ => b1 _) (fun _ => ?_))
  refine Tm_oc c_small (fun r hr => Tm_some ?_)
  have e : r.2 = σ := hr.1
  rw [e]
  exact Vx_i h (WF_r σ) ⟨by omega, by omega⟩ (by omega)
theorem c_isBelow (h : HQ g l t σ) (hx : Gv g (L.1 1)) : Tm (fun k => y_X10_isBelow k 0 L σ) (fun r => r.2 = σ ∧ (r.1 = 0 ∨ r.1 = 1)) := by
  have b3 : ∀ L' : LV, (L'.1 100 = 0 ∨ L'.1 100 = 1) → Tm (fun k => y_X10_isBelow k 3 L' σ) (fun r => r.2 = σ ∧ (r.1 = 0 ∨ r.1 = 1)) := by
    intro L' d
    refine Tm_suc (fun k => by rw [y_X10_isBelow]) ?_
    refine Tm_chk d ?_
    exact Tm_some ⟨rfl, d⟩
  refine Tm_suc (fun k => by rw [y_X10_isBelow]) ?_
  refine Tm_ite (fun c => ?_) (fun _ => Tm_ite (fun _ => ?_) (fun _ => b3 _ (Or.inr rfl)))
  · rw [u_nn] at c
    refine Tm_suc (fun k => by rw [y_X10_isBelow]) ?_
    refine Tm_chk (in_g h hx c) ?_
    refine Tm_ite (fun _ => ?_) (fun _ => b3 _ (Or.inr rfl))
    refine Tm_suc (fun k => by rw [y_X10_isBelow]) ?_
    exact b3 _ (Or.inl rfl)
  · refine Tm_suc (fun k => by rw [y_X10_isBelow]) ?_
    exact b3 _ (Or.inl rfl)
theorem c_load5 (h : HQ g l t σ) (hx : Gv g (L.1 1)) (hk : uN (L.1 1) < 2147483648 → hdK (uN (σ.2.2.1 3 (uN (L.1 1)))) = 2) : Tm (fun k => y_X10_load__a5 k 0 L σ) (fun r => WF σ r.2 ∧ uN r.1 ≤ 32) := by
  have b3 : ∀ L' : LV, L'.1 101 = 0 → Tm (fun k => y_X10_load__a5 k 3 L' σ) (fun r => WF σ r.2 ∧ uN r.1 ≤ 32) := by
    intro L' d
    refine Tm_suc (fun k => by rw [y_X10_load__a5]) ?_
    rw [d]
    refine Tm_chk (by decide) ?_
    refine Tm_ite (fun _ => ?_) (fun _ => ?_)
    · refine Tm_suc (fun k => by rw [y_X10_load__a5]) ?_
      exact Tm_some ⟨WF_A σ (by decide) _ _, by show uN 0 ≤ 32; decide⟩
    · refine Tm_suc (fun k => by rw [y_X10_load__a5]) ?_
      refine Tm_suc (fun k => by rw [y_X10_load__a5]) ?_
      exact Tm_some ⟨WF_A σ (by decide) _ _, by show uN 1 ≤ 32; decide⟩
  refine Tm_suc (fun k => by rw [y_X10_load__a5]) ?_
  refine Tm_ite (fun c => ?_) (fun c => Tm_ite (fun _ => ?_) (fun _ => b3 _ rfl))
  · rw [u_nn] at c
    have cc := Gv_c hx c
    have cg := HQ_c h cc.2
    have k2 := hk c
    have n2 := cg.2.2.2.2.2.2.2.2.1 k2
    have w : hdW (uN (σ.2.2.1 3 (uN (L.1 1)))) = hdL (uN (σ.2.2.1 3 (uN (L.1 1)))) := by
      unfold hdK at k2; unfold hdW; rw [if_neg (by omega)]
    have en : uN (nI (hdL (uN (σ.2.2.1 3 (uN (L.1 1)))))) = hdL (uN (σ.2.2.1 3 (uN (L.1 1)))) := u_n (by omega)
    have e1 : uN (L.1 1 + 1) = uN (L.1 1) + 1 := u_inc (by omega)
    refine Tm_suc (fun k => by rw [y_X10_load__a5]) ?_
    refine Tm_chk (in_g h hx c) ?_
    rw [u_cl c, e_len]
    refine Tm_chk ⟨by rw [u_neg]; omega, by decide, by rw [u_neg]; omega, by rw [u_cl (by omega), u_cl (by omega), e1, en]; omega, by rw [show (nI (hdL (uN (σ.2.2.1 3 (uN (L.1 1)))))).toNatClampNeg = hdL (uN (σ.2.2.1 3 (uN (L.1 1)))) from (u_cl (by omega)).trans en]; show 0 + _ ≤ 72; omega⟩ ?_
    refine Tm_some ⟨WF_F σ (by decide) _, ?_⟩
    show uN (nI _) ≤ 32
    omega
  · refine Tm_suc (fun k => by rw [y_X10_load__a5]) ?_
    exact b3 _ rfl
theorem c_load6 (h : HQ g l t σ) (hx : Gv g (L.1 1)) (hk : uN (L.1 1) < 2147483648 → hdK (uN (σ.2.2.1 3 (uN (L.1 1)))) = 2) : Tm (fun k => y_X10_load__a6 k 0 L σ) (fun r => WF σ r.2 ∧ uN r.1 ≤ 32) := by
  have b3 : ∀ L' : LV, L'.1 101 = 0 → Tm (fun k => y_X10_load__a6 k 3 L' σ) (fun r => WF σ r.2 ∧ uN r.1 ≤ 32) := by
    intro L' d
    refine Tm_suc (fun k => by rw [y_X10_load__a6]) ?_
    rw [d]
    refine Tm_chk (by decide) ?_
    refine Tm_ite (fun _ => ?_) (fun _ => ?_)
    · refine Tm_suc (fun k => by rw [y_X10_load__a6]) ?_
      exact Tm_some ⟨WF_A σ (by decide) _ _, by show uN 0 ≤ 32; decide⟩
    · refine Tm_suc (fun k => by rw [y_X10_load__a6]) ?_
      refine Tm_suc (fun k => by rw [y_X10_load__a6]) ?_
      exact Tm_some ⟨WF_A σ (by decide) _ _, by show uN 1 ≤ 32; decide⟩
  refine Tm_suc (fun k => by rw [y_X10_load__a6]) ?_
  refine Tm_ite (fun c => ?_) (fun c => Tm_ite (fun _ => ?_) (fun _ => b3 _ rfl))
  · rw [u_nn] at c
    have cc := Gv_c hx c
    have cg := HQ_c h cc.2
    have k2 := hk c
    have n2 := cg.2.2.2.2.2.2.2.2.1 k2
    have w : hdW (uN (σ.2.2.1 3 (uN (L.1 1)))) = hdL (uN (σ.2.2.1 3 (uN (L.1 1)))) := by
      unfold hdK at k2; unfold hdW; rw [if_neg (by omega)]
    have en : uN (nI (hdL (uN (σ.2.2.1 3 (uN (L.1 1)))))) = hdL (uN (σ.2.2.1 3 (uN (L.1 1)))) := u_n (by omega)
    have e1 : uN (L.1 1 + 1) = uN (L.1 1) + 1 := u_inc (by omega)
    refine Tm_suc (fun k => by rw [y_X10_load__a6]) ?_
    refine Tm_chk (in_g h hx c) ?_
    rw [u_cl c, e_len]
    refine Tm_chk ⟨by rw [u_neg]; omega, by decide, by rw [u_neg]; omega, by rw [u_cl (by omega), u_cl (by omega), e1, en]; omega, by rw [show (nI (hdL (uN (σ.2.2.1 3 (uN (L.1 1)))))).toNatClampNeg = hdL (uN (σ.2.2.1 3 (uN (L.1 1)))) from (u_cl (by omega)).trans en]; show 0 + _ ≤ 72; omega⟩ ?_
    refine Tm_some ⟨WF_F σ (by decide) _, ?_⟩
    show uN (nI _) ≤ 32
    omega
  · refine Tm_suc (fun k => by rw [y_X10_load__a6]) ?_
    exact b3 _ rfl
theorem c_load7 (h : HQ g l t σ) (hx : Gv g (L.1 1)) (hk : uN (L.1 1) < 2147483648 → hdK (uN (σ.2.2.1 3 (uN (L.1 1)))) = 2) : Tm (fun k => y_X10_load__a7 k 0 L σ) (fun r => WF σ r.2 ∧ uN r.1 ≤ 32) := by
  have b3 : ∀ L' : LV, L'.1 101 = 0 → Tm (fun k => y_X10_load__a7 k 3 L' σ) (fun r => WF σ r.2 ∧ uN r.1 ≤ 32) := by
    intro L' d
    refine Tm_suc (fun k => by rw [y_X10_load__a7]) ?_
    rw [d]
    refine Tm_chk (by decide) ?_
    refine Tm_ite (fun _ => ?_) (fun _ => ?_)
    · refine Tm_suc (fun k => by rw [y_X10_load__a7]) ?_
      exact Tm_some ⟨WF_A σ (by decide) _ _, by show uN 0 ≤ 32; decide⟩
    · refine Tm_suc (fun k => by rw [y_X10_load__a7]) ?_
      refine Tm_suc (fun k => by rw [y_X10_load__a7]) ?_
      exact Tm_some ⟨WF_A σ (by decide) _ _, by show uN 1 ≤ 32; decide⟩
  refine Tm_suc (fun k => by rw [y_X10_load__a7]) ?_
  refine Tm_ite (fun c => ?_) (fun c => Tm_ite (fun _ => ?_) (fun _ => b3 _ rfl))
  · rw [u_nn] at c
    have cc := Gv_c hx c
    have cg := HQ_c h cc.2
    have k2 := hk c
    have n2 := cg.2.2.2.2.2.2.2.2.1 k2
    have w : hdW (uN (σ.2.2.1 3 (uN (L.1 1)))) = hdL (uN (σ.2.2.1 3 (uN (L.1 1)))) := by
      unfold hdK at k2; unfold hdW; rw [if_neg (by omega)]
    have en : uN (nI (hdL (uN (σ.2.2.1 3 (uN (L.1 1)))))) = hdL (uN (σ.2.2.1 3 (uN (L.1 1)))) := u_n (by omega)
    have e1 : uN (L.1 1 + 1) = uN (L.1 1) + 1 := u_inc (by omega)
    refine Tm_suc (fun k => by rw [y_X10_load__a7]) ?_
    refine Tm_chk (in_g h hx c) ?_
    rw [u_cl c, e_len]
    refine Tm_chk ⟨by rw [u_neg]; omega, by decide, by rw [u_neg]; omega, by rw [u_cl (by omega), u_cl (by omega), e1, en]; omega, by rw [show (nI (hdL (uN (σ.2.2.1 3 (uN (L.1 1)))))).toNatClampNeg = hdL (uN (σ.2.2.1 3 (uN (L.1 1)))) from (u_cl (by omega)).trans en]; show 0 + _ ≤ 72; omega⟩ ?_
    refine Tm_some ⟨WF_F σ (by decide) _, ?_⟩
    show uN (nI _) ≤ 32
    omega
  · refine Tm_suc (fun k => by rw [y_X10_load__a7]) ?_
    exact b3 _ rfl
theorem al_1 {n : Nat} (n1 : n < 72) : ∀ (m : Nat) (L : LV) (σ : CS), uN (L.1 6) + m = n → uN (L.1 3) = n → Tm (fun k => y_X10_addLimbs k 1 L σ) (fun r => WF σ r.2 ∧ uN r.1 = n + 1) := by
  intro m
  induction m with
  | zero =>
    intro L σ d6 d3
    refine Tm_suc (fun k => by rw [y_X10_addLimbs]) ?_
    refine Tm_yes (by rw [u_le (by omega) (by omega)]; omega) ?_
    refine Tm_suc (fun k => by rw [y_X10_addLimbs]) ?_
    refine Tm_chk (u_in (by omega) (by decide)) ?_
    refine Tm_some ⟨WF_A σ (by decide) _ _, ?_⟩
    show uN (L.1 3 + 1) = n + 1
    rw [u_inc (by omega), d3]
  | succ m ih =>
    intro L σ d6 d3
    have b6 : ∀ L' : LV, L'.1 3 = L.1 3 → L'.1 6 = L.1 6 → Tm (fun k => y_X10_addLimbs k 6 L' σ) (fun r => WF σ r.2 ∧ uN r.1 = n + 1) := by
      intro L' a3 a6
      refine Tm_suc (fun k => by rw [y_X10_addLimbs]) ?_
      refine Tm_chk (u_in (by rw [a6]; omega) (by decide)) ?_
      refine Tm_mono (ih _ _ ?_ ?_) (fun r hr => ⟨WF_t (WF_A σ (by decide) _ _) hr.1, hr.2⟩)
      · show uN (L'.1 6 + 1) + m = n
        rw [a6, u_inc (by omega)]; omega
      · show uN (L'.1 3) = n; rw [a3]; exact d3
    have b4 : ∀ L' : LV, L'.1 3 = L.1 3 → L'.1 6 = L.1 6 → Tm (fun k => y_X10_addLimbs k 4 L' σ) (fun r => WF σ r.2 ∧ uN r.1 = n + 1) := by
      intro L' a3 a6
      refine Tm_suc (fun k => by rw [y_X10_addLimbs]) ?_
      refine Tm_ite (fun _ => ?_) (fun _ => ?_)
      · refine Tm_suc (fun k => by rw [y_X10_addLimbs]) ?_
        exact b6 _ a3 a6
      · refine Tm_chk (u_in (by rw [a6]; omega) (by decide)) ?_
        exact b6 _ a3 a6
    refine Tm_suc (fun k => by rw [y_X10_addLimbs]) ?_
    refine Tm_ite (fun c => absurd c (by rw [u_le (by omega) (by omega)]; omega)) (fun _ => ?_)
    refine Tm_ite (fun _ => ?_) (fun _ => ?_)
    · refine Tm_suc (fun k => by rw [y_X10_addLimbs]) ?_
      exact b4 _ rfl rfl
    · refine Tm_chk (u_in (by omega) (by decide)) ?_
      exact b4 _ rfl rfl
theorem c_addLimbs (n1 : uN (L.1 1) < 72) (m1 : uN (L.1 2) < 72) : Tm (fun k => y_X10_addLimbs k 0 L σ) (fun r => WF σ r.2 ∧ 1 ≤ uN r.1 ∧ uN r.1 ≤ 72) := by
  have e : uN (if L.1 1 < L.1 2 then L.1 2 else L.1 1) < 72 := by split <;> assumption
  refine Tm_suc (fun k => by rw [y_X10_addLimbs]) ?_
  refine Tm_mono (al_1 e (uN (if L.1 1 < L.1 2 then L.1 2 else L.1 1)) _ σ (by show 0 + _ = _; omega) rfl) (fun r hr => ⟨hr.1, by omega, by omega⟩)
theorem c_cmp : Tm (fun k => y_J6_compare_7cf53 k 0 L σ) (Qs σ) := by
  have b : ∀ L' : LV, Tm (fun k => y_J6_compare_7cf53 k 2 L' σ) (Qs σ) := by
    intro L'
    refine Tm_suc (fun k => by rw [y_J6_compare_7cf53]) ?_
    exact Tm_some rfl
  refine Tm_suc (fun k => by rw [y_J6_compare_7cf53]) ?_
  refine Tm_ite (fun _ => ?_) (fun _ => b _)
  refine Tm_suc (fun k => by rw [y_J6_compare_7cf53]) ?_
  refine Tm_ite (fun _ => b _) (fun _ => ?_)
  refine Tm_suc (fun k => by rw [y_J6_compare_7cf53]) ?_
  exact b _
theorem cl_1 : ∀ (m : Nat) (L : LV), (uN (L.1 4) + 1 = m ∨ (2147483648 ≤ uN (L.1 4) ∧ m = 0)) → m ≤ 72 → Tm (fun k => y_X10_compareLimbs k 1 L σ) (Qs σ) := by
  have b2 : ∀ L' : LV, Tm (fun k => y_X10_compareLimbs k 2 L' σ) (Qs σ) := by
    intro L'
    refine Tm_suc (fun k => by rw [y_X10_compareLimbs]) ?_
    exact Tm_some rfl
  intro m
  induction m with
  | zero =>
    intro L d hm
    refine Tm_suc (fun k => by rw [y_X10_compareLimbs]) ?_
    exact Tm_yes (by rw [u_neg]; omega) (b2 _)
  | succ m ih =>
    intro L d hm
    refine Tm_suc (fun k => by rw [y_X10_compareLimbs]) ?_
    refine Tm_ite (fun _ => b2 _) (fun _ => Tm_ite (fun _ => ?_) (fun _ => b2 _))
    refine Tm_chk (u_in (by omega) (by decide)) ?_
    refine Tm_chk (u_in (by omega) (by decide)) ?_
    refine Tm_oc c_cmp (fun r hr => ?_)
    have e : r.2 = σ := hr
    rw [e]
    refine ih _ ?_ (by omega)
    show uN (L.1 4 + (-1)) + 1 = m ∨ (2147483648 ≤ uN (L.1 4 + (-1)) ∧ m = 0)
    by_cases c : uN (L.1 4) = 0
    · right
      rw [show L.1 4 = 0 from by rw [u_eq, c]; rfl]
      exact ⟨by decide, by omega⟩
    · left
      rw [u_dec (by omega)]; omega
theorem c_compareLimbs (n1 : uN (L.1 1) ≤ 72) : Tm (fun k => y_X10_compareLimbs k 0 L σ) (Qs σ) := by
  refine Tm_suc (fun k => by rw [y_X10_compareLimbs]) ?_
  refine Tm_oc c_cmp (fun r hr => ?_)
  have e : r.2 = σ := hr
  rw [e]
  refine cl_1 (uN (L.1 1)) _ ?_ n1
  show uN (L.1 1 - 1) + 1 = uN (L.1 1) ∨ (2147483648 ≤ uN (L.1 1 - 1) ∧ uN (L.1 1) = 0)
  by_cases c : uN (L.1 1) = 0
  · right
    rw [show L.1 1 = 0 from by rw [u_eq, c]; rfl]
    exact ⟨by decide, by decide⟩
  · left
    rw [u_sub (by show 1 ≤ _; omega)]
    show uN (L.1 1) - 1 + 1 = _
    omega
theorem tl5_1 {n : Nat} (n1 : n ≤ 72) : ∀ (m : Nat) (L : LV) (σ : CS), uN (L.1 7) + m = n → uN (L.1 2) = n → uN (L.1 4) ≤ 72 → Tm (fun k => y_X10_takeLimbs__a5__a6 k 1 L σ) (fun r => WF σ r.2 ∧ r.1 = L.1 2) := by
  intro m
  induction m with
  | zero =>
    intro L σ d7 d2 d4
    refine Tm_suc (fun k => by rw [y_X10_takeLimbs__a5__a6]) ?_
    refine Tm_yes (by rw [u_le (by omega) (by omega)]; omega) ?_
    refine Tm_suc (fun k => by rw [y_X10_takeLimbs__a5__a6]) ?_
    exact Tm_some ⟨WF_r σ, rfl⟩
  | succ m ih =>
    intro L σ d7 d2 d4
    have lp : ∀ (L' : LV), L'.1 2 = L.1 2 → L'.1 4 = L.1 4 → L'.1 7 = L.1 7 → ∀ x, Tm (fun k => y_X10_takeLimbs__a5__a6 k 1 (lI (lJ L' 5 x) 7 (L'.1 7 + 1)) (uA σ 7 (L'.1 7).toNatClampNeg ((L'.2.1 101 - L'.2.1 100).toInt32))) (fun r => WF σ r.2 ∧ r.1 = L.1 2) := by
      intro L' a2 a4 a7 x
      refine Tm_mono (ih _ _ ?_ ?_ ?_) (fun r hr => ⟨WF_t (WF_A σ (by decide) _ _) hr.1, hr.2.trans a2⟩)
      · show uN (L'.1 7 + 1) + m = n
        rw [a7, u_inc (by omega)]; omega
      · show uN (L'.1 2) = n; rw [a2]; exact d2
      · show uN (L'.1 4) ≤ 72; rw [a4]; exact d4
    have b4 : ∀ (L' : LV), L'.1 2 = L.1 2 → L'.1 4 = L.1 4 → L'.1 7 = L.1 7 → Tm (fun k => y_X10_takeLimbs__a5__a6 k 4 L' σ) (fun r => WF σ r.2 ∧ r.1 = L.1 2) := by
      intro L' a2 a4 a7
      refine Tm_suc (fun k => by rw [y_X10_takeLimbs__a5__a6]) ?_
      refine Tm_chk (u_in (by rw [a7]; omega) (by decide)) ?_
      exact lp L' a2 a4 a7 _
    refine Tm_suc (fun k => by rw [y_X10_takeLimbs__a5__a6]) ?_
    refine Tm_ite (fun c => absurd c (by rw [u_le (by omega) (by omega)]; omega)) (fun _ => ?_)
    refine Tm_chk (u_in (by omega) (by decide)) ?_
    refine Tm_ite (fun _ => ?_) (fun _ => ?_)
    · refine Tm_suc (fun k => by rw [y_X10_takeLimbs__a5__a6]) ?_
      exact b4 _ rfl rfl rfl
    · refine Tm_chk (u_in (by omega) (by decide)) ?_
      exact b4 _ rfl rfl rfl
theorem c_takeLimbs5 (n1 : uN (L.1 2) ≤ 72) (m1 : uN (L.1 4) ≤ 72) : Tm (fun k => y_X10_takeLimbs__a5__a6 k 0 L σ) (fun r => WF σ r.2 ∧ r.1 = L.1 2) := by
  refine Tm_suc (fun k => by rw [y_X10_takeLimbs__a5__a6]) ?_
  exact tl5_1 n1 (uN (L.1 2)) _ σ (by show 0 + _ = _; omega) rfl m1
theorem tl6_1 {n : Nat} (n1 : n ≤ 72) : ∀ (m : Nat) (L : LV) (σ : CS), uN (L.1 7) + m = n → uN (L.1 2) = n → uN (L.1 4) ≤ 72 → Tm (fun k => y_X10_takeLimbs__a6__a5 k 1 L σ) (fun r => WF σ r.2 ∧ r.1 = L.1 2) := by
  intro m
  induction m with
  | zero =>
    intro L σ d7 d2 d4
    refine Tm_suc (fun k => by rw [y_X10_takeLimbs__a6__a5]) ?_
    refine Tm_yes (by rw [u_le (by omega) (by omega)]; omega) ?_
    refine Tm_suc (fun k => by rw [y_X10_takeLimbs__a6__a5]) ?_
    exact Tm_some ⟨WF_r σ, rfl⟩
  | succ m ih =>
    intro L σ d7 d2 d4
    have lp : ∀ (L' : LV), L'.1 2 = L.1 2 → L'.1 4 = L.1 4 → L'.1 7 = L.1 7 → ∀ x, Tm (fun k => y_X10_takeLimbs__a6__a5 k 1 (lI (lJ L' 5 x) 7 (L'.1 7 + 1)) (uA σ 7 (L'.1 7).toNatClampNeg ((L'.2.1 101 - L'.2.1 100).toInt32))) (fun r => WF σ r.2 ∧ r.1 = L.1 2) := by
      intro L' a2 a4 a7 x
      refine Tm_mono (ih _ _ ?_ ?_ ?_) (fun r hr => ⟨WF_t (WF_A σ (by decide) _ _) hr.1, hr.2.trans a2⟩)
      · show uN (L'.1 7 + 1) + m = n
        rw [a7, u_inc (by omega)]; omega
      · show uN (L'.1 2) = n; rw [a2]; exact d2
      · show uN (L'.1 4) ≤ 72; rw [a4]; exact d4
    have b4 : ∀ (L' : LV), L'.1 2 = L.1 2 → L'.1 4 = L.1 4 → L'.1 7 = L.1 7 → Tm (fun k => y_X10_takeLimbs__a6__a5 k 4 L' σ) (fun r => WF σ r.2 ∧ r.1 = L.1 2) := by
      intro L' a2 a4 a7
      refine Tm_suc (fun k => by rw [y_X10_takeLimbs__a6__a5]) ?_
      refine Tm_chk (u_in (by rw [a7]; omega) (by decide)) ?_
      exact lp L' a2 a4 a7 _
    refine Tm_suc (fun k => by rw [y_X10_takeLimbs__a6__a5]) ?_
    refine Tm_ite (fun c => absurd c (by rw [u_le (by omega) (by omega)]; omega)) (fun _ => ?_)
    refine Tm_chk (u_in (by omega) (by decide)) ?_
    refine Tm_ite (fun _ => ?_) (fun _ => ?_)
    · refine Tm_suc (fun k => by rw [y_X10_takeLimbs__a6__a5]) ?_
      exact b4 _ rfl rfl rfl
    · refine Tm_chk (u_in (by omega) (by decide)) ?_
      exact b4 _ rfl rfl rfl
theorem c_takeLimbs6 (n1 : uN (L.1 2) ≤ 72) (m1 : uN (L.1 4) ≤ 72) : Tm (fun k => y_X10_takeLimbs__a6__a5 k 0 L σ) (fun r => WF σ r.2 ∧ r.1 = L.1 2) := by
  refine Tm_suc (fun k => by rw [y_X10_takeLimbs__a6__a5]) ?_
  exact tl6_1 n1 (uN (L.1 2)) _ σ (by show 0 + _ = _; omega) rfl m1
end CRL
