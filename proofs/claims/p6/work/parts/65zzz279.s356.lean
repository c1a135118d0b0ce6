/-! The class: unions, differences, meets of sets. -/
section CRT
variable {g g' g2 : Nat → Prop} {l l' l2 : List Nat} {t t' t2 : Nat} {σ σ' σ2 : CS} {L : LV} {x y i : Int32} {M M' : Nat → Int32}
theorem c_areWholes (h : HQ g l t σ) (hx : Gv g (L.1 1)) (hy : Gv g (L.1 2)) : Tm (fun k => y_X0_areWholes k 0 L σ) (fun r => r.2 = σ ∧ (¬ r.1 = 0 → kdC (σ.2.2.1 3) (L.1 1) = 2 ∧ kdC (σ.2.2.1 3) (L.1 2) = 2)) := by
  have no : ∀ L' : LV, Tm (fun k => y_X0_areWholes k 1 L' σ) (fun r => r.2 = σ ∧ (¬ r.1 = 0 → kdC (σ.2.2.1 3) (L.1 1) = 2 ∧ kdC (σ.2.2.1 3) (L.1 2) = 2)) := by
    intro L'
    refine Tm_suc (fun k => by rw [y_X0_areWholes]) ?_
    refine Tm_suc (fun k => by rw [y_X0_areWholes]) ?_
    refine Tm_chk (Or.inl rfl) ?_
    exact Tm_some ⟨rfl, fun z => absurd rfl z⟩
  refine Tm_suc (fun k => by rw [y_X0_areWholes]) ?_
  refine Tm_ocE (c_kind h hx) ?_
  refine Tm_ite (fun c => ?_) (fun _ => no _)
  refine Tm_ocE (c_kind h hy) ?_
  refine Tm_ite (fun d => ?_) (fun _ => no _)
  have c' : nI (kdC (σ.2.2.1 3) (L.1 1)) = 2 := c
  have d' : nI (kdC (σ.2.2.1 3) (L.1 2)) = 2 := d
  have q1 := kdC_lt (σ.2.2.1 3) (L.1 1)
  have q2 := kdC_lt (σ.2.2.1 3) (L.1 2)
  rw [u_eq, u_n (by omega)] at c' d'
  refine Tm_suc (fun k => by rw [y_X0_areWholes]) ?_
  refine Tm_chk (Or.inr rfl) ?_
  exact Tm_some ⟨rfl, fun _ => ⟨c', d'⟩⟩
theorem c_areSets (h : HQ g l t σ) (hx : Gv g (L.1 1)) (hy : Gv g (L.1 2)) : Tm (fun k => y_X0_areSets k 0 L σ) (fun r => r.2 = σ ∧ (¬ r.1 = 0 → kdC (σ.2.2.1 3) (L.1 1) = 6 ∧ kdC (σ.2.2.1 3) (L.1 2) = 6)) := by
  have no : ∀ L' : LV, Tm (fun k => y_X0_areSets k 1 L' σ) (fun r => r.2 = σ ∧ (¬ r.1 = 0 → kdC (σ.2.2.1 3) (L.1 1) = 6 ∧ kdC (σ.2.2.1 3) (L.1 2) = 6)) := by
    intro L'
    refine Tm_suc (fun k => by rw [y_X0_areSets]) ?_
    refine Tm_suc (fun k => by rw [y_X0_areSets]) ?_
    refine Tm_chk (Or.inl rfl) ?_
    exact Tm_some ⟨rfl, fun z => absurd rfl z⟩
  refine Tm_suc (fun k => by rw [y_X0_areSets]) ?_
  refine Tm_ocE (c_kind h hx) ?_
  refine Tm_ite (fun c => ?_) (fun _ => no _)
  refine Tm_ocE (c_kind h hy) ?_
  refine Tm_ite (fun d => ?_) (fun _ => no _)
  have c' : nI (kdC (σ.2.2.1 3) (L.1 1)) = 6 := c
  have d' : nI (kdC (σ.2.2.1 3) (L.1 2)) = 6 := d
  have q1 := kdC_lt (σ.2.2.1 3) (L.1 1)
  have q2 := kdC_lt (σ.2.2.1 3) (L.1 2)
  rw [u_eq, u_n (by omega)] at c' d'
  refine Tm_suc (fun k => by rw [y_X0_areSets]) ?_
  refine Tm_chk (Or.inr rfl) ?_
  exact Tm_some ⟨rfl, fun _ => ⟨c', d'⟩⟩
/-- out of row 16 -/
theorem mk16 (h : HQ g l t σ) (w : AXf σ σ') {n kd : Nat} (hk : kd = 5 ∨ kd = 6) {L : LV} (h1 : uN (L.1 1) = kd) (h3 : uN (L.1 3) = 0) (h4 : uN (L.1 4) ≤ 2048) (hr : ∀ j, j < uN (L.1 4) → Gv g (σ'.2.2.1 16 j)) : Tm (fun k => y_X1_makeRow__a16 k 0 L σ') (Va g t σ) := by
  refine Tm_mono (c_makeRow16 (HQ_X h w) hk (by decide) h1 (fun _ _ => ?_)) (fun r q => Va_M h w q)
  rw [h3]
  refine ⟨by omega, fun j hj => ?_⟩
  rw [Nat.zero_add]
  exact hr j hj
theorem mt16 (h : HQ g l t σ) (w : AXf σ σ') {L : LV} (h2 : uN (L.1 2) = 0) (h3 : uN (L.1 3) ≤ 2048) (hr : ∀ j, j < uN (L.1 3) → Gv g (σ'.2.2.1 16 j)) : Tm (fun k => y_X1_makeTuple__a16 k 0 L σ') (Va g t σ) := by
  refine Tm_mono (c_makeTuple16 (HQ_X h w) (by decide) (fun _ _ => ?_)) (fun r q => Va_M h w q)
  rw [h2]
  refine ⟨by omega, fun j hj => ?_⟩
  rw [Nat.zero_add]
  exact hr j hj
/-- one value more in row 16 -/
theorem r16_p {n : Nat} (hr : ∀ j, j < n → Gv g (σ.2.2.1 16 j)) (hx : Gv g x) : ∀ j, j < n + 1 → Gv g ((uA σ 16 n x).2.2.1 16 j) := by
  intro j hj
  show Gv g (upd (σ.2.2.1 16) n x j)
  by_cases c : j = n
  · rw [c, upd_same]; exact hx
  · rw [upd_other c]; exact hr j (by omega)
theorem c_union (h : HQ g l t σ) (hx : Sq5 g σ (L.1 1)) (hy : Sq5 g σ (L.1 2)) : Tm (fun k => y_X0_union k 0 L σ) (Va g t σ) := by
  have la := lnC_lt (σ.2.2.1 3) (L.1 1)
  have lb := lnC_lt (σ.2.2.1 3) (L.1 2)
  have ea : uN (nI (lnC (σ.2.2.1 3) (L.1 1))) = lnC (σ.2.2.1 3) (L.1 1) := u_n (by omega)
  have eb : uN (nI (lnC (σ.2.2.1 3) (L.1 2))) = lnC (σ.2.2.1 3) (L.1 2) := u_n (by omega)
  have b2 : ∀ (L' : LV) (σ' : CS), AXf σ σ' → L'.1 1 = L.1 1 → uN (L'.1 3) < 2147483648 → uN (L'.1 4) ≤ 2048 → (∀ j, j < uN (L'.1 4) → Gv g (σ'.2.2.1 16 j)) → Tm (fun k => y_X0_union k 2 L' σ') (Va g t σ) := by
    intro L' σ' w a1 a3 a4 hr
    have r3 : σ'.2.2.1 3 = σ.2.2.1 3 := w.2.2.1 3 (by decide)
    have hx' : Sq5 g σ' (L'.1 1) := Sq5_X w (by rw [a1]; exact hx)
    refine Tm_suc (fun k => by rw [y_X0_union]) ?_
    refine Tm_ocE (c_length (HQ_X h w) hx'.1) ?_
    refine Tm_oc (c_load0 (HQ_X h w) hx' a3 (by show uN (nI (lnC (σ'.2.2.1 3) (L'.1 1))) ≤ lnC (σ'.2.2.1 3) (L'.1 1); rw [r3, a1, ea]; exact Nat.le_refl _) a4 hr) (fun r q => ?_)
    obtain ⟨f, q1, q2, q3⟩ := q
    rw [q1]
    exact Tm_oc (mk16 (n := 0) h (AXf_t w (AXf_F σ' (by decide) f)) (Or.inr rfl) rfl rfl q2 q3) (fun r z => Tm_some z)
  have b1 : ∀ (m : Nat) (L' : LV) (σ' : CS), AXf σ σ' → uN (L'.1 5) + m = lnC (σ.2.2.1 3) (L.1 2) → L'.1 1 = L.1 1 → L'.1 2 = L.1 2 → uN (L'.1 3) ≤ lnC (σ.2.2.1 3) (L.1 1) → uN (L'.1 4) ≤ 2048 → (∀ j, j < uN (L'.1 4) → Gv g (σ'.2.2.1 16 j)) → Tm (fun k => y_X0_union k 1 L' σ') (Va g t σ) := by
    intro m
    induction m with
    | zero =>
      intro L' σ' w a5 a1 a2 a3 a4 hr
      have r3 : σ'.2.2.1 3 = σ.2.2.1 3 := w.2.2.1 3 (by decide)
      have hy' : Sq5 g σ' (L'.1 2) := Sq5_X w (by rw [a2]; exact hy)
      refine Tm_suc (fun k => by rw [y_X0_union]) ?_
      refine Tm_ocE (c_length (HQ_X h w) hy'.1) ?_
      refine Tm_yes ?_ (b2 _ _ w a1 (by omega) a4 hr)
      show nI (lnC (σ'.2.2.1 3) (L'.1 2)) ≤ L'.1 5
      rw [r3, a2, u_le (by omega) (by omega)]
      omega
    | succ m ih =>
      intro L' σ' w a5 a1 a2 a3 a4 hr
      have r3 : σ'.2.2.1 3 = σ.2.2.1 3 := w.2.2.1 3 (by decide)
      have hx' : Sq5 g σ' (L'.1 1) := Sq5_X w (by rw [a1]; exact hx)
      have hy' : Sq5 g σ' (L'.1 2) := Sq5_X w (by rw [a2]; exact hy)
      have h' := HQ_X h w
      have b4 : ∀ (L2 : LV) (σ2 : CS), AXf σ σ2 → L2.1 5 = L'.1 5 → L2.1 1 = L.1 1 → L2.1 2 = L.1 2 → uN (L2.1 3) ≤ lnC (σ.2.2.1 3) (L.1 1) → uN (L2.1 4) ≤ 2048 → (∀ j, j < uN (L2.1 4) → Gv g (σ2.2.2.1 16 j)) → Tm (fun k => y_X0_union k 4 L2 σ2) (Va g t σ) := by
        intro L2 σ2 w2 z5 z1 z2 z3 z4 zr
        refine Tm_suc (fun k => by rw [y_X0_union]) ?_
        refine ih _ _ w2 ?_ ?_ ?_ ?_ ?_ ?_
        · show uN (L2.1 5 + 1) + m = _
          rw [z5, u_inc (by omega)]; omega
        · exact z1
        · exact z2
        · exact z3
        · exact z4
        · exact zr
      have b3 : ∀ (L2 : LV) (σ2 : CS), AXf σ σ2 → Gv g (L2.1 6) → L2.1 5 = L'.1 5 → L2.1 1 = L.1 1 → L2.1 2 = L.1 2 → uN (L2.1 3) ≤ lnC (σ.2.2.1 3) (L.1 1) → uN (L2.1 4) ≤ 2048 → (∀ j, j < uN (L2.1 4) → Gv g (σ2.2.2.1 16 j)) → Tm (fun k => y_X0_union k 3 L2 σ2) (Va g t σ) := by
        intro L2 σ2 w2 z6 z5 z1 z2 z3 z4 zr
        refine Tm_suc (fun k => by rw [y_X0_union]) ?_
        refine Tm_ite (fun _ => b4 _ _ w2 z5 z1 z2 z3 z4 zr) (fun c => ?_)
        rw [u_le (by decide) (by omega)] at c
        have c' : uN (L2.1 4) < 2048 := Nat.lt_of_not_le c
        refine Tm_chk (u_in c' (by decide)) ?_
        have e4 : uN (L2.1 4 + 1) = uN (L2.1 4) + 1 := u_inc (by omega)
        refine b4 _ _ (AXf_t w2 (AXf_A _ (by decide) _ _)) ?_ ?_ ?_ ?_ ?_ ?_
        · exact z5
        · exact z1
        · exact z2
        · exact z3
        · show uN (L2.1 4 + 1) ≤ 2048; omega
        · show ∀ j, j < uN (L2.1 4 + 1) → Gv g ((uA σ2 16 (L2.1 4).toNatClampNeg (L2.1 6)).2.2.1 16 j)
          rw [e4, u_cl (by omega)]
          exact r16_p zr z6
      refine Tm_suc (fun k => by rw [y_X0_union]) ?_
      refine Tm_ocE (c_length h' hy'.1) ?_
      refine Tm_ite (fun c => absurd c ?_) (fun _ => ?_)
      · show ¬ nI (lnC (σ'.2.2.1 3) (L'.1 2)) ≤ L'.1 5
        rw [r3, a2, u_le (by omega) (by omega)]
        omega
      refine Tm_ocE (c_member h' hy'.1 hy'.2) ?_
      have gm := mbC_g (y := L'.1 5) h' hy'.1 hy'.2
      refine Tm_oc (c_placeOf h' hx' gm (by show uN (L'.1 3) ≤ 4096; omega)) (fun r4 q4 => ?_)
      have e4 : r4.2 = σ' := q4.1
      have p4 : uN r4.1 ≤ lnC (σ.2.2.1 3) (L.1 1) := by
        rcases q4.2.2 with z | z
        · have z' : uN r4.1 = uN (L'.1 3) := z
          omega
        · have z' : uN r4.1 ≤ lnC (σ'.2.2.1 3) (L'.1 1) := z
          rw [r3, a1] at z'
          exact z'
      rw [e4]
      refine Tm_oc (c_load0 h' hx' (by show uN (L'.1 3) < _; omega) (by show uN r4.1 ≤ lnC (σ'.2.2.1 3) (L'.1 1); rw [r3, a1]; exact p4) a4 hr) (fun r5 q5 => ?_)
      obtain ⟨f, f1, f2, f3⟩ := q5
      rw [f1]
      have w5 := AXf_t w (AXf_F σ' (k := 16) (by decide) f)
      have h5 := HQ_X h w5
      have hx5 : Sq5 g (uF σ' 16 f) (L'.1 1) := Sq5_X w5 (by rw [a1]; exact hx)
      refine Tm_ocE (c_length h5 hx5.1) ?_
      have go3 : Tm (fun k => y_X0_union k 3 (lI (lI (lI L' 3 r4.1) 4 r5.1) 6 (mbC (σ'.2.2.1 3) (L'.1 2) (L'.1 5))) (uF σ' 16 f)) (Va g t σ) := by
        refine b3 _ _ w5 ?_ ?_ ?_ ?_ ?_ ?_ ?_
        · exact gm
        · rfl
        · exact a1
        · exact a2
        · exact p4
        · exact f2
        · exact f3
      refine Tm_ite (fun _ => go3) (fun _ => ?_)
      refine Tm_ocE (c_member h5 hx5.1 hx5.2) ?_
      refine Tm_oc (c_same h5 (mbC_g h5 hx5.1 hx5.2) gm) (fun r9 q9 => ?_)
      have e9 : r9.2 = uF σ' 16 f := q9.1
      rw [e9]
      refine Tm_ite (fun _ => go3) (fun _ => ?_)
      refine b4 _ _ w5 ?_ ?_ ?_ ?_ ?_ ?_
      · rfl
      · exact a1
      · exact a2
      · exact p4
      · exact f2
      · exact f3
  refine Tm_suc (fun k => by rw [y_X0_union]) ?_
  refine b1 (lnC (σ.2.2.1 3) (L.1 2)) _ σ (AXf_r σ) ?_ ?_ ?_ ?_ ?_ ?_
  · show 0 + _ = _; omega
  · rfl
  · rfl
  · exact Nat.zero_le _
  · show uN 0 ≤ 2048; decide
  · intro j hj; exact absurd hj (Nat.not_lt_zero j)
theorem c_without (h : HQ g l t σ) (hx : Sq5 g σ (L.1 1)) (hy : Sq5 g σ (L.1 2)) : Tm (fun k => y_X0_without k 0 L σ) (Va g t σ) := by
  have la := lnC_lt (σ.2.2.1 3) (L.1 1)
  have lb := lnC_lt (σ.2.2.1 3) (L.1 2)
  have ea : uN (nI (lnC (σ.2.2.1 3) (L.1 1))) = lnC (σ.2.2.1 3) (L.1 1) := u_n (by omega)
  have eb : uN (nI (lnC (σ.2.2.1 3) (L.1 2))) = lnC (σ.2.2.1 3) (L.1 2) := u_n (by omega)
  have b2 : ∀ (L' : LV) (σ' : CS), AXf σ σ' → L'.1 1 = L.1 1 → uN (L'.1 3) < 2147483648 → uN (L'.1 4) ≤ 2048 → (∀ j, j < uN (L'.1 4) → Gv g (σ'.2.2.1 16 j)) → Tm (fun k => y_X0_without k 2 L' σ') (Va g t σ) := by
    intro L' σ' w a1 a3 a4 hr
    have r3 : σ'.2.2.1 3 = σ.2.2.1 3 := w.2.2.1 3 (by decide)
    have hx' : Sq5 g σ' (L'.1 1) := Sq5_X w (by rw [a1]; exact hx)
    refine Tm_suc (fun k => by rw [y_X0_without]) ?_
    refine Tm_ocE (c_length (HQ_X h w) hx'.1) ?_
    refine Tm_oc (c_load0 (HQ_X h w) hx' a3 (by show uN (nI (lnC (σ'.2.2.1 3) (L'.1 1))) ≤ lnC (σ'.2.2.1 3) (L'.1 1); rw [r3, a1, ea]; exact Nat.le_refl _) a4 hr) (fun r q => ?_)
    obtain ⟨f, q1, q2, q3⟩ := q
    rw [q1]
    exact Tm_oc (mk16 (n := 0) h (AXf_t w (AXf_F σ' (by decide) f)) (Or.inr rfl) rfl rfl q2 q3) (fun r z => Tm_some z)
  have b1 : ∀ (m : Nat) (L' : LV) (σ' : CS), AXf σ σ' → uN (L'.1 5) + m = lnC (σ.2.2.1 3) (L.1 2) → L'.1 1 = L.1 1 → L'.1 2 = L.1 2 → uN (L'.1 3) ≤ lnC (σ.2.2.1 3) (L.1 1) → uN (L'.1 4) ≤ 2048 → (∀ j, j < uN (L'.1 4) → Gv g (σ'.2.2.1 16 j)) → Tm (fun k => y_X0_without k 1 L' σ') (Va g t σ) := by
    intro m
    induction m with
    | zero =>
      intro L' σ' w a5 a1 a2 a3 a4 hr
      have r3 : σ'.2.2.1 3 = σ.2.2.1 3 := w.2.2.1 3 (by decide)
      have hy' : Sq5 g σ' (L'.1 2) := Sq5_X w (by rw [a2]; exact hy)
      refine Tm_suc (fun k => by rw [y_X0_without]) ?_
      refine Tm_ocE (c_length (HQ_X h w) hy'.1) ?_
      refine Tm_yes ?_ (b2 _ _ w a1 (by omega) a4 hr)
      show nI (lnC (σ'.2.2.1 3) (L'.1 2)) ≤ L'.1 5
      rw [r3, a2, u_le (by omega) (by omega)]
      omega
    | succ m ih =>
      intro L' σ' w a5 a1 a2 a3 a4 hr
      have r3 : σ'.2.2.1 3 = σ.2.2.1 3 := w.2.2.1 3 (by decide)
      have hx' : Sq5 g σ' (L'.1 1) := Sq5_X w (by rw [a1]; exact hx)
      have hy' : Sq5 g σ' (L'.1 2) := Sq5_X w (by rw [a2]; exact hy)
      have h' := HQ_X h w
      have b4 : ∀ (L2 : LV) (σ2 : CS), AXf σ σ2 → L2.1 5 = L'.1 5 → L2.1 1 = L.1 1 → L2.1 2 = L.1 2 → uN (L2.1 100) ≤ lnC (σ.2.2.1 3) (L.1 1) → uN (L2.1 4) ≤ 2048 → (∀ j, j < uN (L2.1 4) → Gv g (σ2.2.2.1 16 j)) → Tm (fun k => y_X0_without k 4 L2 σ2) (Va g t σ) := by
        intro L2 σ2 w2 z5 z1 z2 z3 z4 zr
        refine Tm_suc (fun k => by rw [y_X0_without]) ?_
        refine ih _ _ w2 ?_ ?_ ?_ ?_ ?_ ?_
        · show uN (L2.1 5 + 1) + m = _
          rw [z5, u_inc (by omega)]; omega
        · exact z1
        · exact z2
        · exact z3
        · exact z4
        · exact zr
      refine Tm_suc (fun k => by rw [y_X0_without]) ?_
      refine Tm_ocE (c_length h' hy'.1) ?_
      refine Tm_ite (fun c => absurd c ?_) (fun _ => ?_)
      · show ¬ nI (lnC (σ'.2.2.1 3) (L'.1 2)) ≤ L'.1 5
        rw [r3, a2, u_le (by omega) (by omega)]
        omega
      refine Tm_ocE (c_member h' hy'.1 hy'.2) ?_
      have gm := mbC_g (y := L'.1 5) h' hy'.1 hy'.2
      refine Tm_oc (c_placeOf h' hx' gm (by show uN (L'.1 3) ≤ 4096; omega)) (fun r4 q4 => ?_)
      have e4 : r4.2 = σ' := q4.1
      have p4 : uN r4.1 ≤ lnC (σ.2.2.1 3) (L.1 1) := by
        rcases q4.2.2 with z | z
        · have z' : uN r4.1 = uN (L'.1 3) := z
          omega
        · have z' : uN r4.1 ≤ lnC (σ'.2.2.1 3) (L'.1 1) := z
          rw [r3, a1] at z'
          exact z'
      rw [e4]
      refine Tm_oc (c_load0 h' hx' (by show uN (L'.1 3) < _; omega) (by show uN r4.1 ≤ lnC (σ'.2.2.1 3) (L'.1 1); rw [r3, a1]; exact p4) a4 hr) (fun r5 q5 => ?_)
      obtain ⟨f, f1, f2, f3⟩ := q5
      rw [f1]
      have w5 := AXf_t w (AXf_F σ' (k := 16) (by decide) f)
      have h5 := HQ_X h w5
      have hx5 : Sq5 g (uF σ' 16 f) (L'.1 1) := Sq5_X w5 (by rw [a1]; exact hx)
      refine Tm_ocE (c_length h5 hx5.1) ?_
      have go3 : Tm (fun k => y_X0_without k 3 (lI (lI L' 4 r5.1) 7 r4.1) (uF σ' 16 f)) (Va g t σ) := by
        refine Tm_suc (fun k => by rw [y_X0_without]) ?_
        refine b4 _ _ w5 ?_ ?_ ?_ ?_ ?_ ?_
        · rfl
        · exact a1
        · exact a2
        · exact p4
        · exact f2
        · exact f3
      refine Tm_ite (fun _ => go3) (fun c => ?_)
      have c' : ¬ nI (lnC (σ'.2.2.1 3) (L'.1 1)) ≤ r4.1 := c
      rw [r3, a1, u_le (by omega) (by omega), ea] at c'
      refine Tm_ocE (c_member h5 hx5.1 hx5.2) ?_
      refine Tm_oc (c_same h5 (mbC_g h5 hx5.1 hx5.2) gm) (fun r9 q9 => ?_)
      have e9 : r9.2 = uF σ' 16 f := q9.1
      rw [e9]
      refine Tm_ite (fun _ => go3) (fun _ => ?_)
      refine b4 _ _ w5 ?_ ?_ ?_ ?_ ?_ ?_
      · rfl
      · exact a1
      · exact a2
      · show uN (r4.1 + 1) ≤ _
        rw [u_inc (by omega)]; omega
      · exact f2
      · exact f3
  refine Tm_suc (fun k => by rw [y_X0_without]) ?_
  refine b1 (lnC (σ.2.2.1 3) (L.1 2)) _ σ (AXf_r σ) ?_ ?_ ?_ ?_ ?_ ?_
  · show 0 + _ = _; omega
  · rfl
  · rfl
  · exact Nat.zero_le _
  · show uN 0 ≤ 2048; decide
  · intro j hj; exact absurd hj (Nat.not_lt_zero j)
end CRT
