/-! The class: sets. -/
section CRS
variable {g g' g2 : Nat → Prop} {l l' l2 : List Nat} {t t' t2 : Nat} {σ σ' σ2 : CS} {L : LV} {x y i : Int32} {M M' : Nat → Int32}
/-- what operators may write, the heap aside -/
def AXf (σ σ' : CS) : Prop := (∀ j, ¬ (j = 404 ∨ j = 1203) → σ'.1 j = σ.1 j) ∧ σ'.2.1 = σ.2.1 ∧ (∀ k, ¬ ((5 ≤ k ∧ k ≤ 11) ∨ k = 13 ∨ (15 ≤ k ∧ k ≤ 17)) → σ'.2.2.1 k = σ.2.2.1 k) ∧ σ'.2.2.2 = σ.2.2.2
theorem AXf_r (σ : CS) : AXf σ σ := ⟨fun _ _ => rfl, rfl, fun _ _ => rfl, rfl⟩
theorem AXf_t (a : AXf σ σ') (b : AXf σ' σ2) : AXf σ σ2 := ⟨fun j hj => (b.1 j hj).trans (a.1 j hj), b.2.1.trans a.2.1, fun k hk => (b.2.2.1 k hk).trans (a.2.2.1 k hk), b.2.2.2.trans a.2.2.2⟩
theorem AXf_W (w : WF σ σ') : AXf σ σ' := ⟨fun j hj => w.1 j (fun e => hj (Or.inl e)), w.2.1, fun k hk => w.2.2.1 k (fun e => hk (Or.inl e)), w.2.2.2⟩
theorem AXf_L (w : PFl σ σ') : AXf σ σ' := ⟨w.1, w.2.1, fun k hk => w.2.2.1 k (fun e => hk (e.imp id Or.inl)), w.2.2.2⟩
theorem AXf_F (σ : CS) {k : Nat} (hk : (5 ≤ k ∧ k ≤ 11) ∨ k = 13 ∨ (15 ≤ k ∧ k ≤ 17)) (f : Nat → Int32) : AXf σ (uF σ k f) := ⟨fun _ _ => rfl, rfl, fun j hj => if_neg (fun e => hj (by rw [e]; exact hk)), rfl⟩
theorem AXf_A (σ : CS) {k : Nat} (hk : (5 ≤ k ∧ k ≤ 11) ∨ k = 13 ∨ (15 ≤ k ∧ k ≤ 17)) (i : Nat) (x : Int32) : AXf σ (uA σ k i x) := AXf_F σ hk _
theorem HQ_X (h : HQ g l t σ) (w : AXf σ σ') : HQ g l t σ' := HQ_fr h (w.1 1 (by decide)) (w.2.2.1 3 (by decide)) (by rw [w.2.2.2])
/-- what operators may write -/
def AWf (σ σ' : CS) : Prop := (∀ j, ¬ (j = 1 ∨ j = 404 ∨ j = 1203) → σ'.1 j = σ.1 j) ∧ σ'.2.1 = σ.2.1 ∧ (∀ k, ¬ (k = 3 ∨ (5 ≤ k ∧ k ≤ 11) ∨ k = 13 ∨ (15 ≤ k ∧ k ≤ 17)) → σ'.2.2.1 k = σ.2.2.1 k) ∧ σ'.2.2.2 = σ.2.2.2
theorem AWf_t (a : AWf σ σ') (b : AWf σ' σ2) : AWf σ σ2 := ⟨fun j hj => (b.1 j hj).trans (a.1 j hj), b.2.1.trans a.2.1, fun k hk => (b.2.2.1 k hk).trans (a.2.2.1 k hk), b.2.2.2.trans a.2.2.2⟩
theorem AWf_X (w : AXf σ σ') : AWf σ σ' := ⟨fun j hj => w.1 j (fun e => hj (Or.inr e)), w.2.1, fun k hk => w.2.2.1 k (fun e => hk (Or.inr e)), w.2.2.2⟩
theorem AWf_V (w : VWc σ σ') : AWf σ σ' := ⟨fun j hj => w.1 j (fun e => hj (e.imp id Or.inl)), w.2.1, fun k hk => w.2.2.1 k (fun e => hk (e.imp id Or.inl)), w.2.2.2⟩
/-- growth by an operator -/
def Ga (g : Nat → Prop) (t : Nat) (σ : CS) (g' : Nat → Prop) (l' : List Nat) (t' : Nat) (σ' : CS) : Prop := HQ g' l' t' σ' ∧ (∀ p, g p → g' p) ∧ (∀ p, p < t → σ'.2.2.1 3 p = σ.2.2.1 3 p) ∧ t ≤ t' ∧ AWf σ σ'
theorem Ga_t (a : Ga g t σ g' l' t' σ') (b : Ga g' t' σ' g2 l2 t2 σ2) : Ga g t σ g2 l2 t2 σ2 := by
  have q := a.2.2.2.1
  exact ⟨b.1, fun p hp => b.2.1 p (a.2.1 p hp), fun p hp => (b.2.2.1 p (by omega)).trans (a.2.2.1 p hp), Nat.le_trans a.2.2.2.1 b.2.2.2.1, AWf_t a.2.2.2.2 b.2.2.2.2⟩
theorem Ga_X (h : HQ g l t σ) (w : AXf σ σ') : Ga g t σ g l t σ' := ⟨HQ_X h w, fun _ z => z, fun p _ => by rw [w.2.2.1 3 (by decide)], Nat.le_refl _, AWf_X w⟩
theorem Ga_G (a : Gr g t σ g' l' t' σ') : Ga g t σ g' l' t' σ' := ⟨a.1, a.2.1, a.2.2.1, a.2.2.2.1, AWf_V a.2.2.2.2⟩
theorem kdC_ga (h : HQ g l t σ) (a : Ga g t σ g' l' t' σ') (hx : Gv g x) : kdC (σ'.2.2.1 3) x = kdC (σ.2.2.1 3) x := by
  unfold kdC
  split
  · rename_i c
    rw [a.2.2.1 _ (HQ_c h (Gv_c hx c).2).1]
  · rfl
/-- what an operator answers -/
def Va (g : Nat → Prop) (t : Nat) (σ : CS) (r : Int32 × CS) : Prop := ∃ (g' : Nat → Prop) (l' : List Nat) (t' : Nat), Ga g t σ g' l' t' r.2 ∧ (Gv g' r.1 ∨ Rw r.1)
theorem Va_V {r : Int32 × CS} {kd : Nat} (q : Vx g t σ kd r) : Va g t σ r := by
  obtain ⟨a, b, c, d, e⟩ := q
  exact ⟨a, b, c, Ga_G d, e.imp (fun z => z.1) id⟩
theorem Va_t {r : Int32 × CS} (a : Ga g t σ g' l' t' σ') (b : Va g' t' σ' r) : Va g t σ r := by
  obtain ⟨g2, l2, t2, q, z⟩ := b
  exact ⟨g2, l2, t2, Ga_t a q, z⟩
theorem Va_M {r : Int32 × CS} {kd : Nat} (h : HQ g l t σ) (w : AXf σ σ') (q : Mk g t σ' kd r) : Va g t σ r := Va_t (Ga_X h w) (Va_V (Vx_M q))
theorem Va_g (h : HQ g l t σ) (w : AXf σ σ') {v : Int32} (hv : Gv g v) : Va g t σ (v, σ') := ⟨g, l, t, Ga_X h w, Or.inl hv⟩
theorem Va_e (h : HQ g l t σ) (w : AXf σ σ') {v : Int32} (hv : Rw v) : Va g t σ (v, σ') := ⟨g, l, t, Ga_X h w, Or.inr hv⟩
theorem c_truth : Tm (fun k => y_X11_truth k 0 L σ) (fun r => r.2 = σ ∧ ∀ g, Gv g r.1) := by
  have b2 : ∀ L' : LV, (L'.1 100 = -1879048191 ∨ L'.1 100 = -1879048192) → Tm (fun k => y_X11_truth k 2 L' σ) (fun r => r.2 = σ ∧ ∀ g, Gv g r.1) := by
    intro L' d
    refine Tm_suc (fun k => by rw [y_X11_truth]) ?_
    refine Tm_some ⟨rfl, fun g => Or.inl ?_⟩
    show 2147483648 ≤ uN (L'.1 100) ∧ (uN (L'.1 100) < 3489660928 ∨ (4026531840 ≤ uN (L'.1 100) ∧ ¬ uN (L'.1 100) % 16 = 0))
    rcases d with d | d <;> rw [d] <;> decide
  refine Tm_suc (fun k => by rw [y_X11_truth]) ?_
  refine Tm_ite (fun _ => ?_) (fun _ => b2 _ (Or.inl rfl))
  refine Tm_suc (fun k => by rw [y_X11_truth]) ?_
  exact b2 _ (Or.inr rfl)
/-- a value that is no string and no whole if it is a cell -/
def Sq5 (g : Nat → Prop) (σ : CS) (x : Int32) : Prop := Gv g x ∧ (uN x < 2147483648 → 5 ≤ kdC (σ.2.2.1 3) x)
theorem Sq5_k (hx : Gv g x) (k : 5 ≤ kdC (σ.2.2.1 3) x) : Sq5 g σ x := ⟨hx, fun _ => k⟩
theorem Sq5_X (w : AXf σ σ') (h : Sq5 g σ x) : Sq5 g σ' x := ⟨h.1, by rw [w.2.2.1 3 (by decide)]; exact h.2⟩
theorem c_load0 (h : HQ g l t σ) (hx : Sq5 g σ (L.1 1)) (ha : uN (L.1 2) < 2147483648) (hb : uN (L.1 3) ≤ lnC (σ.2.2.1 3) (L.1 1)) (hc : uN (L.1 4) ≤ 2048) (hr : ∀ j, j < uN (L.1 4) → Gv g (σ.2.2.1 16 j)) : Tm (fun k => y_X0_load k 0 L σ) (fun r => ∃ f, r.2 = uF σ 16 f ∧ uN r.1 ≤ 2048 ∧ ∀ j, j < uN r.1 → Gv g (f j)) := by
  have ll := lnC_lt (σ.2.2.1 3) (L.1 1)
  have b1 : ∀ L' : LV, L'.1 4 = L.1 4 → Tm (fun k => y_X0_load k 1 L' σ) (fun r => ∃ f, r.2 = uF σ 16 f ∧ uN r.1 ≤ 2048 ∧ ∀ j, j < uN r.1 → Gv g (f j)) := by
    intro L' a4
    refine Tm_suc (fun k => by rw [y_X0_load]) ?_
    refine Tm_some ⟨σ.2.2.1 16, (uF_id σ 16).symm, ?_, ?_⟩
    · show uN (L'.1 4) ≤ _; rw [a4]; exact hc
    · show ∀ j, j < uN (L'.1 4) → _; rw [a4]; exact hr
  have eA : uN (Int32.ofNat 2048 - L.1 4) = 2048 - uN (L.1 4) := by
    rw [u_sub (by show _ ≤ 2048; exact hc)]; rfl
  refine Tm_suc (fun k => by rw [y_X0_load]) ?_
  generalize hN : (if Int32.ofNat 2048 - L.1 4 < L.1 3 - L.1 2 then Int32.ofNat 2048 - L.1 4 else L.1 3 - L.1 2) = N
  refine Tm_ite (fun _ => b1 _ rfl) (fun cN => Tm_ite (fun cx => ?_) (fun _ => b1 _ rfl))
  rw [u_nn] at cx
  have n1 : 1 ≤ uN N ∧ uN N < 2147483648 := by
    rw [i_le, u_int N] at cN
    have c' : ¬ (if uN N < 2147483648 then (uN N : Int) else (uN N : Int) - 4294967296) ≤ 0 := cN
    have := u_lt N
    split at c' <;> omega
  have n2 : uN (L.1 2) ≤ uN (L.1 3) ∧ uN N ≤ uN (L.1 3) - uN (L.1 2) ∧ uN N ≤ 2048 - uN (L.1 4) := by
    rcases Nat.lt_or_ge (uN (L.1 3)) (uN (L.1 2)) with z | z
    · have q := u_subn z ha
      exfalso
      split at hN
      · rename_i c
        rw [i_lt, u_int, u_int, if_pos (by omega), if_neg (by omega)] at c
        have := u_lt (L.1 3 - L.1 2)
        omega
      · rw [hN] at q; omega
    · have e : uN (L.1 3 - L.1 2) = uN (L.1 3) - uN (L.1 2) := u_sub z
      split at hN
      · rename_i c
        rw [u_ltn (by omega) (by omega), eA, e] at c
        rw [← hN, eA]
        omega
      · rename_i c
        rw [u_ltn (by omega) (by omega), eA, e] at c
        rw [← hN, e]
        omega
  have cg := Gv_c hx.1 cx
  have hq := HQ_c h cg.2
  have k5 := hx.2 cx
  unfold kdC at k5
  rw [if_pos cx] at k5
  have w5 := hdW_5 k5
  have el : lnC (σ.2.2.1 3) (L.1 1) = hdL (uN (σ.2.2.1 3 (uN (L.1 1)))) := if_pos cx
  have fx := hq.2.2.2.2.2.2.2.2.2.1 k5
  have e1 : uN (L.1 1 + 1 + L.1 2) = uN (L.1 1) + 1 + uN (L.1 2) := by
    rw [u_add (by rw [u_inc (by omega)]; omega), u_inc (by omega)]
  refine Tm_suc (fun k => by rw [y_X0_load]) ?_
  refine Tm_chk ⟨?_, ?_, ?_, ?_, ?_⟩ ?_
  · show ¬ L.1 1 + 1 + L.1 2 < 0
    rw [u_neg]; omega
  · show ¬ L.1 4 < 0
    rw [u_neg]; omega
  · show ¬ N < 0
    rw [u_neg]; omega
  · show (L.1 1 + 1 + L.1 2).toNatClampNeg + N.toNatClampNeg ≤ sN σ 3
    rw [u_cl (by omega), u_cl (by omega)]; omega
  · show (L.1 4).toNatClampNeg + N.toNatClampNeg ≤ 2048
    rw [u_cl (by omega), u_cl (by omega)]; omega
  refine Tm_some ⟨_, rfl, ?_, ?_⟩
  · show uN (L.1 4 + N) ≤ 2048
    rw [u_add (by omega)]; omega
  · show ∀ j, j < uN (L.1 4 + N) → Gv g (va_cpy (σ.2.2.1 3) (σ.2.2.1 16) (L.1 1 + 1 + L.1 2).toNatClampNeg (L.1 4).toNatClampNeg N.toNatClampNeg j)
    intro j hj
    rw [u_add (by omega)] at hj
    rw [u_cl (x := L.1 1 + 1 + L.1 2) (by omega), u_cl (x := L.1 4) (by omega), u_cl (x := N) (by omega), e1]
    unfold va_cpy
    by_cases c : uN (L.1 4) ≤ j ∧ j < uN (L.1 4) + uN N
    · rw [if_pos c, show uN (L.1 1) + 1 + uN (L.1 2) + (j - uN (L.1 4)) = uN (L.1 1) + 1 + (uN (L.1 2) + (j - uN (L.1 4))) from by omega]
      exact (fx.2.2 _ (by omega)).1
    · rw [if_neg c]
      exact hr j (by omega)
theorem u_shr1 {x : Int32} : uN ((x.toUInt32 >>> ((1 : Int32).toUInt32 &&& Int32.toUInt32 31)).toInt32) = uN x / 2 := by
  rw [u_shr x 1 (k := 1) (by decide)]
theorem c_placeOf (h : HQ g l t σ) (hx : Sq5 g σ (L.1 1)) (hy : Gv g (L.1 3)) (ha : uN (L.1 2) ≤ 4096) : Tm (fun k => y_X0_placeOf k 0 L σ) (fun r => r.2 = σ ∧ uN (L.1 2) ≤ uN r.1 ∧ (uN r.1 = uN (L.1 2) ∨ uN r.1 ≤ lnC (σ.2.2.1 3) (L.1 1))) := by
  have ll := lnC_lt (σ.2.2.1 3) (L.1 1)
  have b2 : ∀ L' : LV, uN (L.1 2) ≤ uN (L'.1 4) → (uN (L'.1 4) = uN (L.1 2) ∨ uN (L'.1 4) ≤ lnC (σ.2.2.1 3) (L.1 1)) → Tm (fun k => y_X0_placeOf k 2 L' σ) (fun r => r.2 = σ ∧ uN (L.1 2) ≤ uN r.1 ∧ (uN r.1 = uN (L.1 2) ∨ uN r.1 ≤ lnC (σ.2.2.1 3) (L.1 1))) := by
    intro L' a b
    refine Tm_suc (fun k => by rw [y_X0_placeOf]) ?_
    exact Tm_some ⟨rfl, a, b⟩
  have b1 : ∀ (m : Nat) (L' : LV), uN (L'.1 6) + m = 32 → L'.1 1 = L.1 1 → L'.1 3 = L.1 3 → uN (L.1 2) ≤ uN (L'.1 4) → (uN (L'.1 4) = uN (L.1 2) ∨ uN (L'.1 4) ≤ lnC (σ.2.2.1 3) (L.1 1)) → uN (L'.1 5) ≤ lnC (σ.2.2.1 3) (L.1 1) → Tm (fun k => y_X0_placeOf k 1 L' σ) (fun r => r.2 = σ ∧ uN (L.1 2) ≤ uN r.1 ∧ (uN r.1 = uN (L.1 2) ∨ uN r.1 ≤ lnC (σ.2.2.1 3) (L.1 1))) := by
    intro m
    induction m with
    | zero =>
      intro L' a6 a1 a3 a4 a4' a5
      refine Tm_suc (fun k => by rw [y_X0_placeOf]) ?_
      exact Tm_yes (by rw [u_le (by decide) (by omega)]; show 32 ≤ _; omega) (b2 _ a4 a4')
    | succ m ih =>
      intro L' a6 a1 a3 a4 a4' a5
      have b4 : ∀ L2 : LV, L2.1 6 = L'.1 6 → L2.1 1 = L.1 1 → L2.1 3 = L.1 3 → uN (L.1 2) ≤ uN (L2.1 4) → (uN (L2.1 4) = uN (L.1 2) ∨ uN (L2.1 4) ≤ lnC (σ.2.2.1 3) (L.1 1)) → uN (L2.1 5) ≤ lnC (σ.2.2.1 3) (L.1 1) → Tm (fun k => y_X0_placeOf k 4 L2 σ) (fun r => r.2 = σ ∧ uN (L.1 2) ≤ uN r.1 ∧ (uN r.1 = uN (L.1 2) ∨ uN r.1 ≤ lnC (σ.2.2.1 3) (L.1 1))) := by
        intro L2 z6 z1 z3 z4 z4' z5
        refine Tm_suc (fun k => by rw [y_X0_placeOf]) ?_
        refine ih _ ?_ ?_ ?_ ?_ ?_ ?_
        · show uN (L2.1 6 + 1) + m = 32
          rw [z6, u_inc (by omega)]; omega
        · exact z1
        · exact z3
        · exact z4
        · exact z4'
        · exact z5
      have eh : uN ((((L'.1 4) + (L'.1 5)).toUInt32 >>> ((1 : Int32).toUInt32 &&& Int32.toUInt32 31)).toInt32) = (uN (L'.1 4) + uN (L'.1 5)) / 2 := by
        rw [u_shr1, u_add (by omega)]
      have hx' : Sq5 g σ (L'.1 1) := by rw [a1]; exact hx
      refine Tm_suc (fun k => by rw [y_X0_placeOf]) ?_
      refine Tm_ite (fun _ => b2 _ a4 a4') (fun _ => Tm_ite (fun _ => b2 _ a4 a4') (fun c => ?_))
      rw [u_le (by omega) (by omega)] at c
      refine Tm_ocE (c_member h hx'.1 hx'.2) ?_
      refine Tm_oc (c_compare h (mbC_g h hx'.1 hx'.2) (by show Gv g (L'.1 3); rw [a3]; exact hy)) (fun r hr => ?_)
      have e : r.2 = σ := hr
      rw [e]
      refine Tm_ite (fun _ => ?_) (fun _ => ?_)
      · refine Tm_suc (fun k => by rw [y_X0_placeOf]) ?_
        refine b4 _ ?_ ?_ ?_ ?_ ?_ ?_
        · rfl
        · exact a1
        · exact a3
        · exact a4
        · exact a4'
        · show uN ((((L'.1 4) + (L'.1 5)).toUInt32 >>> ((1 : Int32).toUInt32 &&& Int32.toUInt32 31)).toInt32) ≤ _
          omega
      · refine b4 _ ?_ ?_ ?_ ?_ ?_ ?_
        · rfl
        · exact a1
        · exact a3
        · show _ ≤ uN ((((L'.1 4) + (L'.1 5)).toUInt32 >>> ((1 : Int32).toUInt32 &&& Int32.toUInt32 31)).toInt32 + 1)
          rw [u_inc (by omega)]; omega
        · right
          show uN ((((L'.1 4) + (L'.1 5)).toUInt32 >>> ((1 : Int32).toUInt32 &&& Int32.toUInt32 31)).toInt32 + 1) ≤ _
          rw [u_inc (by omega)]; omega
        · exact a5
  refine Tm_suc (fun k => by rw [y_X0_placeOf]) ?_
  refine Tm_ocE (c_length h hx.1) ?_
  refine b1 32 _ ?_ ?_ ?_ ?_ ?_ ?_
  · rfl
  · rfl
  · rfl
  · exact Nat.le_refl _
  · left; rfl
  · show uN (nI (lnC (σ.2.2.1 3) (L.1 1))) ≤ _
    rw [u_n (by omega)]; exact Nat.le_refl _
theorem c_holds (h : HQ g l t σ) (hx : Sq5 g σ (L.1 1)) (hy : Gv g (L.1 2)) : Tm (fun k => y_X0_holds k 0 L σ) (fun r => r.2 = σ ∧ (r.1 = 0 ∨ r.1 = 1)) := by
  have b2 : ∀ L' : LV, (L'.1 100 = 0 ∨ L'.1 100 = 1) → Tm (fun k => y_X0_holds k 2 L' σ) (fun r => r.2 = σ ∧ (r.1 = 0 ∨ r.1 = 1)) := by
    intro L' d
    refine Tm_suc (fun k => by rw [y_X0_holds]) ?_
    refine Tm_chk d ?_
    exact Tm_some ⟨rfl, d⟩
  have b1 : ∀ L' : LV, Tm (fun k => y_X0_holds k 1 L' σ) (fun r => r.2 = σ ∧ (r.1 = 0 ∨ r.1 = 1)) := by
    intro L'
    refine Tm_suc (fun k => by rw [y_X0_holds]) ?_
    exact b2 _ (Or.inl rfl)
  refine Tm_suc (fun k => by rw [y_X0_holds]) ?_
  refine Tm_oc (c_placeOf h hx hy (by show uN 0 ≤ 4096; decide)) (fun r1 h1 => ?_)
  have e1 : r1.2 = σ := h1.1
  rw [e1]
  refine Tm_ocE (c_length h hx.1) ?_
  refine Tm_ite (fun _ => b1 _) (fun _ => ?_)
  refine Tm_ocE (c_member h hx.1 hx.2) ?_
  refine Tm_oc (c_same h (mbC_g h hx.1 hx.2) hy) (fun r2 h2 => ?_)
  have e2 : r2.2 = σ := h2.1
  rw [e2]
  exact Tm_ite (fun _ => b1 _) (fun _ => b2 _ (Or.inr rfl))
end CRS
