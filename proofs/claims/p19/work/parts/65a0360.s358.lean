section JnS358
/-! The class: operators of two. -/
section CRV
variable {g g' g2 : Nat → Prop} {l l' l2 : List Nat} {t t' t2 : Nat} {σ σ' σ2 : CS} {L : LV} {x y i : Int32} {M M' : Nat → Int32}
theorem eKind : Rw (-268435455) := by show 4026531840 ≤ uN (-268435455) ∧ ¬ uN (-268435455) % 16 = 0; decide
theorem ePlace : Rw (-268435452) := by show 4026531840 ≤ uN (-268435452) ∧ ¬ uN (-268435452) % 16 = 0; decide
theorem eSize : Rw (-268435451) := by show 4026531840 ≤ uN (-268435451) ∧ ¬ uN (-268435451) % 16 = 0; decide
theorem mk15 (h : HQ g l t σ) (w : AXf σ σ') {L : LV} (h2 : uN (L.1 2) = 0) (h3 : uN (L.1 3) < 2147483648 → uN (L.1 3) ≤ 8192) : Tm (fun k => y_X1_makeString__a15 k 0 L σ') (Va g t σ) := by
  refine Tm_mono (c_makeString15 (HQ_X h w) (fun _ z => ?_)) (fun r q => Va_M h w q)
  rw [h2]
  have := h3 z
  omega
/-- bytes of a string into row 15 -/
theorem cb15 (h : HQ g l t σ) (w : AXf σ σ') {L : LV} (hx : Gv g (L.1 1)) (kx : kdC (σ.2.2.1 3) (L.1 1) = 4) (n1 : uN (L.1 2) + uN (L.1 3) ≤ lnC (σ.2.2.1 3) (L.1 1)) (b1 : uN (L.1 5) ≤ 8192) : Tm (fun k => y_X1_copyBytes__a15 k 0 L σ') (fun r => AXf σ r.2 ∧ uN r.1 = uN (L.1 5) + uN (L.1 3)) := by
  have ll := lnC_lt (σ.2.2.1 3) (L.1 1)
  have r3 : σ'.2.2.1 3 = σ.2.2.1 3 := w.2.2.1 3 (by decide)
  refine Tm_mono (c_copyBytes15 (HQ_X h w) hx (by omega) (by omega) (fun c => ?_)) (fun r q => ?_)
  · rw [r3]
    refine ⟨str_k kx c, ?_⟩
    have el : lnC (σ.2.2.1 3) (L.1 1) = hdL (uN (σ.2.2.1 3 (uN (L.1 1)))) := if_pos c
    omega
  · obtain ⟨q1, f, q2⟩ := q
    refine ⟨by rw [q2]; exact AXf_t w (AXf_F σ' (by decide) f), ?_⟩
    rw [q1, u_add (by omega)]
theorem c_joined (h : HQ g l t σ) (hx : Gv g (L.1 1)) (hy : Gv g (L.1 2)) (kx : kdC (σ.2.2.1 3) (L.1 1) = 4) (ky : kdC (σ.2.2.1 3) (L.1 2) = 4) : Tm (fun k => y_X0_joined k 0 L σ) (Va g t σ) := by
  have la := lnC_lt (σ.2.2.1 3) (L.1 1)
  have lb := lnC_lt (σ.2.2.1 3) (L.1 2)
  have ea : uN (nI (lnC (σ.2.2.1 3) (L.1 1))) = lnC (σ.2.2.1 3) (L.1 1) := u_n (by omega)
  have eb : uN (nI (lnC (σ.2.2.1 3) (L.1 2))) = lnC (σ.2.2.1 3) (L.1 2) := u_n (by omega)
  refine Tm_suc (fun k => by rw [y_X0_joined]) ?_
  refine Tm_ocE (c_length h hx) ?_
  refine Tm_oc (cb15 h (AXf_r σ) hx kx (by show 0 + uN (nI (lnC (σ.2.2.1 3) (L.1 1))) ≤ lnC (σ.2.2.1 3) (L.1 1); omega) (by show uN 0 ≤ 8192; decide)) (fun r2 q2 => ?_)
  have u2 : uN r2.1 = 0 + uN (nI (lnC (σ.2.2.1 3) (L.1 1))) := q2.2
  have r3 : r2.2.2.2.1 3 = σ.2.2.1 3 := q2.1.2.2.1 3 (by decide)
  refine Tm_ocE (c_length (HQ_X h q2.1) hy) ?_
  rw [r3]
  refine Tm_oc (cb15 h q2.1 hy ky (by show 0 + uN (nI (lnC (σ.2.2.1 3) (L.1 2))) ≤ lnC (σ.2.2.1 3) (L.1 2); omega) (by show uN r2.1 ≤ 8192; omega)) (fun r4 q4 => ?_)
  have u4 : uN r4.1 = uN r2.1 + uN (nI (lnC (σ.2.2.1 3) (L.1 2))) := q4.2
  exact Tm_oc (mk15 h q4.1 rfl (fun _ => by show uN r4.1 ≤ 8192; omega)) (fun r q => Tm_some q)
theorem c_sum (h : HQ g l t σ) (hx : Gv g (L.1 1)) (hy : Gv g (L.1 2)) : Tm (fun k => y_X0_sum k 0 L σ) (Va g t σ) := by
  have q1 := kdC_lt (σ.2.2.1 3) (L.1 1)
  have q2 := kdC_lt (σ.2.2.1 3) (L.1 2)
  have la := lnC_lt (σ.2.2.1 3) (L.1 1)
  have lb := lnC_lt (σ.2.2.1 3) (L.1 2)
  have b3 : ∀ L' : LV, Tm (fun k => y_X0_sum k 3 L' σ) (Va g t σ) := by
    intro L'
    refine Tm_suc (fun k => by rw [y_X0_sum]) ?_
    exact Tm_some (Va_e h (AXf_r σ) eKind)
  have b8 : ∀ (L' : LV) (σ' : CS), Va g t σ (L'.1 100, σ') → Tm (fun k => y_X0_sum k 8 L' σ') (Va g t σ) := by
    intro L' σ' d
    refine Tm_suc (fun k => by rw [y_X0_sum]) ?_
    exact Tm_some d
  refine Tm_suc (fun k => by rw [y_X0_sum]) ?_
  refine Tm_ocE (c_kind h hx) ?_
  refine Tm_ocE (c_kind h hy) ?_
  refine Tm_ite (fun c => ?_) (fun _ => Tm_some (Va_e h (AXf_r σ) eKind))
  have c' : nI (kdC (σ.2.2.1 3) (L.1 1)) = nI (kdC (σ.2.2.1 3) (L.1 2)) := c
  rw [u_eq, u_n (by omega), u_n (by omega)] at c'
  refine Tm_suc (fun k => by rw [y_X0_sum]) ?_
  refine Tm_ite (fun d => ?_) (fun _ => Tm_ite (fun _ => b3 _) (fun _ => Tm_ite (fun d => ?_) (fun _ => Tm_ite (fun d => ?_) (fun _ => Tm_ite (fun d => ?_) (fun _ => b3 _)))))
  · have k : kdC (σ.2.2.1 3) (L.1 1) = 2 := kd_n (n := 2) (by decide) d
    refine Tm_suc (fun k => by rw [y_X0_sum]) ?_
    exact Tm_oc (c_added h ⟨hx, k⟩ ⟨hy, by show kdC (σ.2.2.1 3) (L.1 2) = 2; omega⟩) (fun r q => Tm_some (Va_V q))
  · have k : kdC (σ.2.2.1 3) (L.1 1) = 4 := kd_n (n := 4) (by decide) d
    refine Tm_suc (fun k => by rw [y_X0_sum]) ?_
    exact Tm_oc (c_joined h hx hy k (by show kdC (σ.2.2.1 3) (L.1 2) = 4; omega)) (fun r q => Tm_some q)
  · have k : kdC (σ.2.2.1 3) (L.1 1) = 5 := kd_n (n := 5) (by decide) d
    have sx : Sq5 g σ (L.1 1) := Sq5_k hx (by omega)
    have sy : Sq5 g σ (L.1 2) := Sq5_k hy (by omega)
    refine Tm_suc (fun k => by rw [y_X0_sum]) ?_
    refine Tm_ocE (c_length h hx) ?_
    refine Tm_oc (c_load0 h sx (by show uN 0 < _; decide) (by show uN (nI (lnC (σ.2.2.1 3) (L.1 1))) ≤ lnC (σ.2.2.1 3) (L.1 1); rw [u_n (by omega)]; exact Nat.le_refl _) (by show uN 0 ≤ _; decide) (fun j hj => absurd hj (Nat.not_lt_zero j))) (fun r2 z2 => ?_)
    obtain ⟨f, f1, f2, f3⟩ := z2
    rw [f1]
    have w := AXf_F σ (k := 16) (by decide) f
    refine Tm_ocE (c_length (HQ_X h w) hy) ?_
    refine Tm_oc (c_load0 (HQ_X h w) (Sq5_X w sy) (by show uN 0 < _; decide) (by show uN (nI (lnC (σ.2.2.1 3) (L.1 2))) ≤ lnC (σ.2.2.1 3) (L.1 2); rw [u_n (by omega)]; exact Nat.le_refl _) f2 f3) (fun r4 z4 => ?_)
    obtain ⟨e, e1, e2, e3⟩ := z4
    rw [e1]
    exact Tm_oc (mt16 h (AXf_t w (AXf_F _ (k := 16) (by decide) e)) rfl e2 e3) (fun r q => Tm_some q)
  · have k : kdC (σ.2.2.1 3) (L.1 1) = 6 := kd_n (n := 6) (by decide) d
    have sx : Sq5 g σ (L.1 1) := Sq5_k hx (by omega)
    have sy : Sq5 g σ (L.1 2) := Sq5_k hy (by omega)
    refine Tm_suc (fun k => by rw [y_X0_sum]) ?_
    refine Tm_ocE (c_length h hx) ?_
    refine Tm_ocE (c_length h hy) ?_
    refine Tm_ite (fun _ => ?_) (fun _ => ?_)
    · refine Tm_suc (fun k => by rw [y_X0_sum]) ?_
      exact Tm_oc (c_union h sx sy) (fun r q => b8 _ _ q)
    · exact Tm_oc (c_union h sy sx) (fun r q => b8 _ _ q)
theorem c_difference (h : HQ g l t σ) (hx : Gv g (L.1 1)) (hy : Gv g (L.1 2)) : Tm (fun k => y_X0_difference k 0 L σ) (Va g t σ) := by
  have b4 : ∀ (L' : LV) (σ' : CS), Va g t σ (L'.1 100, σ') → Tm (fun k => y_X0_difference k 4 L' σ') (Va g t σ) := by
    intro L' σ' d
    refine Tm_suc (fun k => by rw [y_X0_difference]) ?_
    exact Tm_some d
  refine Tm_suc (fun k => by rw [y_X0_difference]) ?_
  refine Tm_oc (c_areWholes h hx hy) (fun r1 z1 => ?_)
  have e1 : r1.2 = σ := z1.1
  rw [e1]
  refine Tm_ite (fun _ => ?_) (fun c => ?_)
  · refine Tm_suc (fun k => by rw [y_X0_difference]) ?_
    refine Tm_oc (c_areSets h hx hy) (fun r2 z2 => ?_)
    have e2 : r2.2 = σ := z2.1
    rw [e2]
    refine Tm_ite (fun _ => Tm_some (Va_e h (AXf_r σ) eKind)) (fun c => ?_)
    have k := z2.2 c
    have k1 : kdC (σ.2.2.1 3) (L.1 1) = 6 := k.1
    have k2 : kdC (σ.2.2.1 3) (L.1 2) = 6 := k.2
    have sx : Sq5 g σ (L.1 1) := Sq5_k hx (by omega)
    have sy : Sq5 g σ (L.1 2) := Sq5_k hy (by omega)
    refine Tm_suc (fun k => by rw [y_X0_difference]) ?_
    refine Tm_ocE (c_length h hy) ?_
    refine Tm_ocE (c_length h hx) ?_
    refine Tm_ite (fun _ => ?_) (fun _ => ?_)
    · refine Tm_suc (fun k => by rw [y_X0_difference]) ?_
      exact Tm_oc (c_without h sx sy) (fun r q => b4 _ _ q)
    · exact Tm_oc (c_chosen h sx sy) (fun r q => b4 _ _ q)
  · have k := z1.2 c
    exact Tm_oc (c_added h ⟨hx, k.1⟩ ⟨hy, k.2⟩) (fun r q => Tm_some (Va_V q))
/-- a product within a limit -/
theorem rp_mul {a b : Int32} {c : Int32} (ha : uN a ≤ 4095) (hb : uN b < 2147483648) (hc : uN c ≤ 4000) (h : nbCmp (a.toInt64 * b.toInt64) c.toInt64 ≤ 0) : uN a * uN b ≤ uN c := by
  have ia : a.toInt64.toInt = (uN a : Int) := by rw [Int32.toInt_toInt64, u_int, if_pos (by omega)]
  have ib : b.toInt64.toInt = (uN b : Int) := by rw [Int32.toInt_toInt64, u_int, if_pos (by omega)]
  have ic : c.toInt64.toInt = (uN c : Int) := by rw [Int32.toInt_toInt64, u_int, if_pos (by omega)]
  have m : uN a * uN b ≤ 4095 * 2147483648 := Nat.mul_le_mul ha (Nat.le_of_lt hb)
  rw [w_cmp, Int64.toInt_mul, ia, ib, ic, ← Int.natCast_mul] at h
  generalize uN a * uN b = z at h m
  rw [Int.bmod_eq_of_le (by omega) (by omega)] at h
  omega
theorem c_repeated (h : HQ g l t σ) (hx : Gv g (L.1 1)) (hk : L.1 2 = nI (kdC (σ.2.2.1 3) (L.1 1))) (k45 : kdC (σ.2.2.1 3) (L.1 1) = 4 ∨ kdC (σ.2.2.1 3) (L.1 1) = 5) : Tm (fun k => y_X0_repeated k 0 L σ) (Va g t σ) := by
  have la := lnC_lt (σ.2.2.1 3) (L.1 1)
  have ea : uN (nI (lnC (σ.2.2.1 3) (L.1 1))) = lnC (σ.2.2.1 3) (L.1 1) := u_n (by omega)
  have h0 : Gv g 0 := Or.inr ⟨by decide, h.2.2.2.1.1⟩
  have h1 : Gv g 1 := Or.inr ⟨by decide, h.2.2.2.1.2.1⟩
  have b4 : ∀ L' : LV, Gv g (L'.1 100) → Tm (fun k => y_X0_repeated k 4 L' σ) (Va g t σ) := by
    intro L' d
    refine Tm_suc (fun k => by rw [y_X0_repeated]) ?_
    exact Tm_some (Va_g h (AXf_r σ) d)
  have b1 : ∀ L' : LV, Tm (fun k => y_X0_repeated k 1 L' σ) (Va g t σ) := by
    intro L'
    refine Tm_suc (fun k => by rw [y_X0_repeated]) ?_
    refine Tm_ite (fun _ => b4 _ h0) (fun _ => ?_)
    refine Tm_suc (fun k => by rw [y_X0_repeated]) ?_
    exact b4 _ h1
  have b13 : ∀ (L' : LV) (σ' : CS), Va g t σ (L'.1 100, σ') → Tm (fun k => y_X0_repeated k 13 L' σ') (Va g t σ) := by
    intro L' σ' d
    refine Tm_suc (fun k => by rw [y_X0_repeated]) ?_
    exact Tm_some d
  have k4 : L.1 2 = 4 ↔ kdC (σ.2.2.1 3) (L.1 1) = 4 := by
    rw [hk, u_eq, u_n (by omega)]; exact Iff.rfl
  have b9 : ∀ (L' : LV) (σ' : CS), AXf σ σ' → L'.1 2 = L.1 2 → uN (L'.1 5) ≤ 8192 → (¬ L.1 2 = 4 → uN (L'.1 5) ≤ 2048 ∧ ∀ j, j < uN (L'.1 5) → Gv g (σ'.2.2.1 16 j)) → Tm (fun k => y_X0_repeated k 9 L' σ') (Va g t σ) := by
    intro L' σ' w a2 a5 a16
    refine Tm_suc (fun k => by rw [y_X0_repeated]) ?_
    refine Tm_ite (fun _ => ?_) (fun c => ?_)
    · exact Tm_oc (mk15 h w rfl (fun _ => a5)) (fun r q => b13 _ _ q)
    · rw [a2] at c
      refine Tm_suc (fun k => by rw [y_X0_repeated]) ?_
      exact Tm_oc (mt16 h w rfl (a16 c).1 (a16 c).2) (fun r q => b13 _ _ q)
  have b8 : ∀ (m : Nat) (L' : LV) (σ' : CS), AXf σ σ' → (uN (L.1 3) < 2147483648 → uN (L'.1 6) + m = uN (L.1 3) ∧ lnC (σ.2.2.1 3) (L.1 1) * uN (L.1 3) ≤ 4000) → (2147483648 ≤ uN (L.1 3) → m = 0 ∧ uN (L'.1 6) = 0) → L'.1 1 = L.1 1 → L'.1 2 = L.1 2 → L'.1 3 = L.1 3 → L'.1 4 = nI (lnC (σ.2.2.1 3) (L.1 1)) → (L.1 2 = 4 → uN (L'.1 5) = lnC (σ.2.2.1 3) (L.1 1) * uN (L'.1 6)) → uN (L'.1 5) ≤ 8192 → (¬ L.1 2 = 4 → uN (L'.1 5) ≤ 2048 ∧ ∀ j, j < uN (L'.1 5) → Gv g (σ'.2.2.1 16 j)) → Tm (fun k => y_X0_repeated k 8 L' σ') (Va g t σ) := by
    intro m
    induction m with
    | zero =>
      intro L' σ' w p1 p2 a1 a2 a3 a4 a5 a5' a16
      refine Tm_suc (fun k => by rw [y_X0_repeated]) ?_
      rw [a3]
      refine Tm_yes ?_ (b9 _ _ w a2 a5' a16)
      have q := u_lt (L.1 3)
      rcases Nat.lt_or_ge (uN (L.1 3)) 2147483648 with z | z
      · have p := (p1 z).1
        rw [u_le (by omega) (by omega)]; omega
      · have p := p2 z
        rw [i_le, u_int, u_int, if_neg (by omega), if_pos (by omega)]
        omega
    | succ m ih =>
      intro L' σ' w p1 p2 a1 a2 a3 a4 a5 a5' a16
      have q := u_lt (L.1 3)
      have z : uN (L.1 3) < 2147483648 := by
        rcases Nat.lt_or_ge (uN (L.1 3)) 2147483648 with z | z
        · exact z
        · have p := p2 z
          omega
      have p := p1 z
      have b11 : ∀ (L2 : LV) (σ2 : CS), AXf σ σ2 → L2.1 6 = L'.1 6 → L2.1 1 = L.1 1 → L2.1 2 = L.1 2 → L2.1 3 = L.1 3 → L2.1 4 = nI (lnC (σ.2.2.1 3) (L.1 1)) → (L.1 2 = 4 → uN (L2.1 100) = lnC (σ.2.2.1 3) (L.1 1) * (uN (L'.1 6) + 1)) → uN (L2.1 100) ≤ 8192 → (¬ L.1 2 = 4 → uN (L2.1 100) ≤ 2048 ∧ ∀ j, j < uN (L2.1 100) → Gv g (σ2.2.2.1 16 j)) → Tm (fun k => y_X0_repeated k 11 L2 σ2) (Va g t σ) := by
        intro L2 σ2 w2 z6 z1 z2 z3 z4 z5 z5' z16
        have e6 : uN (L2.1 6 + 1) = uN (L'.1 6) + 1 := by rw [z6, u_inc (by omega)]
        refine Tm_suc (fun k => by rw [y_X0_repeated]) ?_
        refine ih _ _ w2 (fun _ => ⟨?_, p.2⟩) (fun y => absurd y (by omega)) ?_ ?_ ?_ ?_ ?_ ?_ ?_
        · show uN (L2.1 6 + 1) + m = _; omega
        · exact z1
        · exact z2
        · exact z3
        · exact z4
        · intro y
          show uN (L2.1 100) = lnC (σ.2.2.1 3) (L.1 1) * uN (L2.1 6 + 1)
          rw [e6]; exact z5 y
        · exact z5'
        · exact z16
      have mm : lnC (σ.2.2.1 3) (L.1 1) * (uN (L'.1 6) + 1) ≤ 4000 := Nat.le_trans (Nat.mul_le_mul_left _ (by omega)) p.2
      rw [Nat.mul_add, Nat.mul_one] at mm
      refine Tm_suc (fun k => by rw [y_X0_repeated]) ?_
      rw [a2, a3]
      refine Tm_ite (fun c => absurd c (by rw [u_le (by omega) (by omega)]; omega)) (fun _ => ?_)
      refine Tm_ite (fun c => ?_) (fun c => ?_)
      · have u5 := a5 c
        refine Tm_oc (cb15 h w (by show Gv g (L'.1 1); rw [a1]; exact hx) (by show kdC (σ.2.2.1 3) (L'.1 1) = 4; rw [a1]; exact k4.1 c) (by show 0 + uN (L'.1 4) ≤ lnC (σ.2.2.1 3) (L'.1 1); rw [a1, a4]; omega) (by show uN (L'.1 5) ≤ 8192; exact a5')) (fun r zr => ?_)
        have ur : uN r.1 = uN (L'.1 5) + uN (L'.1 4) := zr.2
        rw [a4, ea] at ur
        refine b11 _ _ zr.1 ?_ ?_ ?_ ?_ ?_ ?_ ?_ ?_
        · rfl
        · exact a1
        · exact a2
        · exact a3
        · exact a4
        · intro _
          show uN r.1 = _
          rw [Nat.mul_add, Nat.mul_one]; omega
        · show uN r.1 ≤ 8192; omega
        · intro y; exact absurd c y
      · have k5 : kdC (σ.2.2.1 3) (L.1 1) = 5 := k45.resolve_left (fun y => c (k4.2 y))
        have sx : Sq5 g σ' (L'.1 1) := Sq5_X w (by rw [a1]; exact Sq5_k hx (by omega))
        have r3 : σ'.2.2.1 3 = σ.2.2.1 3 := w.2.2.1 3 (by decide)
        refine Tm_suc (fun k => by rw [y_X0_repeated]) ?_
        refine Tm_oc (c_load0 (HQ_X h w) sx (by show uN 0 < _; decide) (by show uN (L'.1 4) ≤ lnC (σ'.2.2.1 3) (L'.1 1); rw [r3, a1, a4]; omega) (a16 c).1 (a16 c).2) (fun r zr => ?_)
        obtain ⟨f, f1, f2, f3⟩ := zr
        rw [f1]
        refine b11 _ _ (AXf_t w (AXf_F σ' (by decide) f)) ?_ ?_ ?_ ?_ ?_ ?_ ?_ ?_
        · rfl
        · exact a1
        · exact a2
        · exact a3
        · exact a4
        · intro y; exact absurd y c
        · show uN r.1 ≤ 8192; omega
        · intro _; exact ⟨f2, f3⟩
  have b6 : ∀ (L' : LV), L'.1 1 = L.1 1 → L'.1 2 = L.1 2 → L'.1 3 = L.1 3 → L'.1 4 = nI (lnC (σ.2.2.1 3) (L.1 1)) → uN (L'.1 100) ≤ 4000 → L'.2.1 101 = (L'.1 4).toInt64 * (L'.1 3).toInt64 → Tm (fun k => y_X0_repeated k 6 L' σ) (Va g t σ) := by
    intro L' a1 a2 a3 a4 a100 a101
    refine Tm_suc (fun k => by rw [y_X0_repeated]) ?_
    refine Tm_ite (fun c => ?_) (fun _ => Tm_some (Va_e h (AXf_r σ) eSize))
    rw [a101] at c
    refine Tm_suc (fun k => by rw [y_X0_repeated]) ?_
    refine b8 (if uN (L.1 3) < 2147483648 then uN (L.1 3) else 0) _ _ (AXf_r σ) (fun z => ⟨?_, ?_⟩) (fun z => ⟨if_neg (by omega), rfl⟩) ?_ ?_ ?_ ?_ ?_ ?_ ?_
    · rw [if_pos z]; show 0 + _ = _; omega
    · have m := rp_mul (by rw [a4]; omega) (by rw [a3]; exact z) a100 c
      rw [a3, a4, ea] at m
      omega
    · exact a1
    · exact a2
    · exact a3
    · exact a4
    · intro _; show uN 0 = _ * uN 0
      rw [show uN 0 = 0 from rfl, Nat.mul_zero]
    · show uN 0 ≤ 8192; decide
    · intro _; exact ⟨by show uN 0 ≤ 2048; decide, fun j hj => absurd hj (Nat.not_lt_zero j)⟩
  refine Tm_suc (fun k => by rw [y_X0_repeated]) ?_
  refine Tm_ocE (c_length h hx) ?_
  refine Tm_ite (fun _ => b1 _) (fun _ => Tm_ite (fun _ => b1 _) (fun _ => ?_))
  refine Tm_suc (fun k => by rw [y_X0_repeated]) ?_
  refine Tm_ite (fun _ => ?_) (fun _ => ?_)
  · refine b6 _ rfl rfl rfl rfl ?_ rfl
    show uN 4000 ≤ 4000; decide
  · refine Tm_suc (fun k => by rw [y_X0_repeated]) ?_
    refine b6 _ rfl rfl rfl rfl ?_ rfl
    show uN 1000 ≤ 4000; decide
end CRV
end JnS358
section JnS359
/-! The class: products, any operator of two; codes. -/
section CRW
variable {g g' g2 : Nat → Prop} {l l' l2 : List Nat} {t t' t2 : Nat} {σ σ' σ2 : CS} {L : LV} {x y i : Int32} {M M' : Nat → Int32}
theorem c_productA (h : HQ g l t σ) (hx : Gv g (L.1 1)) (hy : Gv g (L.1 2)) : Tm (fun k => y_X0_product k 0 L σ) (Va g t σ) := by
  have b4 : ∀ (L' : LV) (σ' : CS), Va g t σ (L'.1 100, σ') → Tm (fun k => y_X0_product k 4 L' σ') (Va g t σ) := by
    intro L' σ' d
    refine Tm_suc (fun k => by rw [y_X0_product]) ?_
    exact Tm_some d
  have b8 : ∀ (L' : LV) (σ' : CS), Va g t σ (L'.1 100, σ') → Tm (fun k => y_X0_product k 8 L' σ') (Va g t σ) := by
    intro L' σ' d
    refine Tm_suc (fun k => by rw [y_X0_product]) ?_
    exact Tm_some d
  have b5 : ∀ L' : LV, Tm (fun k => y_X0_product k 5 L' σ) (Va g t σ) := by
    intro L'
    refine Tm_suc (fun k => by rw [y_X0_product]) ?_
    exact Tm_some (Va_e h (AXf_r σ) eKind)
  have b6 : ∀ L' : LV, L'.1 1 = L.1 1 → L'.1 2 = L.1 2 → L'.1 3 = nI (kdC (σ.2.2.1 3) (L.1 1)) → (kdC (σ.2.2.1 3) (L.1 1) = 4 ∨ kdC (σ.2.2.1 3) (L.1 1) = 5) → Tm (fun k => y_X0_product k 6 L' σ) (Va g t σ) := by
    intro L' a1 a2 a3 kk
    refine Tm_suc (fun k => by rw [y_X0_product]) ?_
    refine Tm_oc (c_isBelow h (by show Gv g (L'.1 2); rw [a2]; exact hy)) (fun r q => ?_)
    have e : r.2 = σ := q.1
    rw [e]
    refine Tm_ite (fun _ => ?_) (fun _ => b8 _ _ (Va_e h (AXf_r σ) ePlace))
    refine Tm_suc (fun k => by rw [y_X0_product]) ?_
    refine Tm_oc (c_clamped h (by show Gv g (L'.1 2); rw [a2]; exact hy)) (fun r2 q2 => ?_)
    have e2 : r2.2 = σ := q2
    rw [e2]
    refine Tm_oc (c_repeated h ?_ ?_ ?_) (fun r3 q3 => b8 _ _ q3)
    · show Gv g (L'.1 1); rw [a1]; exact hx
    · show L'.1 3 = nI (kdC (σ.2.2.1 3) (L'.1 1)); rw [a1]; exact a3
    · show kdC (σ.2.2.1 3) (L'.1 1) = 4 ∨ kdC (σ.2.2.1 3) (L'.1 1) = 5; rw [a1]; exact kk
  refine Tm_suc (fun k => by rw [y_X0_product]) ?_
  refine Tm_oc (c_areWholes h hx hy) (fun r1 z1 => ?_)
  have e1 : r1.2 = σ := z1.1
  rw [e1]
  refine Tm_ite (fun _ => ?_) (fun c => ?_)
  · refine Tm_suc (fun k => by rw [y_X0_product]) ?_
    refine Tm_oc (c_areSets h hx hy) (fun r2 z2 => ?_)
    have e2 : r2.2 = σ := z2.1
    rw [e2]
    refine Tm_ite (fun _ => ?_) (fun c => ?_)
    · refine Tm_suc (fun k => by rw [y_X0_product]) ?_
      refine Tm_ocE (c_kind h hx) ?_
      refine Tm_ocE (c_kind h hy) ?_
      refine Tm_ite (fun _ => Tm_ite (fun d => ?_) (fun _ => Tm_ite (fun d => ?_) (fun _ => b5 _))) (fun _ => b5 _)
      · exact b6 _ rfl rfl rfl (Or.inl (kd_n (n := 4) (by decide) d))
      · exact b6 _ rfl rfl rfl (Or.inr (kd_n (n := 5) (by decide) d))
    · have k := z2.2 c
      have k1 : kdC (σ.2.2.1 3) (L.1 1) = 6 := k.1
      have k2 : kdC (σ.2.2.1 3) (L.1 2) = 6 := k.2
      have sx : Sq5 g σ (L.1 1) := Sq5_k hx (by omega)
      have sy : Sq5 g σ (L.1 2) := Sq5_k hy (by omega)
      refine Tm_ocE (c_length h hx) ?_
      refine Tm_ocE (c_length h hy) ?_
      refine Tm_ite (fun _ => ?_) (fun _ => ?_)
      · refine Tm_suc (fun k => by rw [y_X0_product]) ?_
        exact Tm_oc (c_chosen h sy sx) (fun r q => b4 _ _ q)
      · exact Tm_oc (c_chosen h sx sy) (fun r q => b4 _ _ q)
  · have k := z1.2 c
    exact Tm_oc (c_product h ⟨hx, k.1⟩ ⟨hy, k.2⟩) (fun r q => Tm_some (Va_V q))
theorem c_binary (h : HQ g l t σ) (hx : Gv g (L.1 2)) (hy : Gv g (L.1 3)) : Tm (fun k => y_X0_binary k 0 L σ) (Va g t σ) := by
  have b8 : Tm (fun k => y_X0_binary k 8 L σ) (Va g t σ) := by
    refine Tm_suc (fun k => by rw [y_X0_binary]) ?_
    refine Tm_oc (c_compared h hx hy) (fun r q => ?_)
    have e : r.2 = σ := q.1
    rw [e]
    exact Tm_some (q.2.elim (fun z => Va_g h (AXf_r σ) z) (fun z => Va_e h (AXf_r σ) z))
  have s16 : ∀ (L' : LV) (σ' : CS), Va g t σ (L'.1 100, σ') → Tm (fun k => y_X0_binary k 16 L' σ') (Va g t σ) := by
    intro L' σ' d
    refine Tm_suc (fun k => by rw [y_X0_binary]) ?_
    exact Tm_some d
  have s20 : ∀ (L' : LV) (σ' : CS), Va g t σ (L'.1 100, σ') → Tm (fun k => y_X0_binary k 20 L' σ') (Va g t σ) := by
    intro L' σ' d
    refine Tm_suc (fun k => by rw [y_X0_binary]) ?_
    exact Tm_some d
  have s22 : ∀ (L' : LV) (σ' : CS), Va g t σ (L'.1 100, σ') → Tm (fun k => y_X0_binary k 22 L' σ') (Va g t σ) := by
    intro L' σ' d
    refine Tm_suc (fun k => by rw [y_X0_binary]) ?_
    exact Tm_some d
  have s23 : ∀ (L' : LV) (σ' : CS), Va g t σ (L'.1 100, σ') → Tm (fun k => y_X0_binary k 23 L' σ') (Va g t σ) := by
    intro L' σ' d
    refine Tm_suc (fun k => by rw [y_X0_binary]) ?_
    exact Tm_some d
  have s18 : ∀ (L' : LV), Tm (fun k => y_X0_binary k 18 L' σ) (Va g t σ) := by
    intro L'
    refine Tm_suc (fun k => by rw [y_X0_binary]) ?_
    refine Tm_oc c_truth (fun r q => ?_)
    have e : r.2 = σ := q.1
    rw [e]
    exact Tm_some (Va_g h (AXf_r σ) (q.2 g))
  have s25 : ∀ (L' : LV), Tm (fun k => y_X0_binary k 25 L' σ) (Va g t σ) := by
    intro L'
    refine Tm_suc (fun k => by rw [y_X0_binary]) ?_
    refine Tm_oc c_truth (fun r q => ?_)
    have e : r.2 = σ := q.1
    rw [e]
    exact s20 _ _ (Va_g h (AXf_r σ) (q.2 g))
  have s14 : ∀ (L' : LV), L'.1 102 = L.1 2 → L'.1 101 = L.1 3 → kdC (σ.2.2.1 3) (L.1 2) = 2 → kdC (σ.2.2.1 3) (L.1 3) = 2 → Tm (fun k => y_X0_binary k 14 L' σ) (Va g t σ) := by
    intro L' a b k1 k2
    refine Tm_suc (fun k => by rw [y_X0_binary]) ?_
    refine Tm_oc (c_divided h ?_ ?_) (fun r q => s23 _ _ (Va_V q))
    · show W2 g σ (L'.1 102); rw [a]; exact ⟨hx, k1⟩
    · show W2 g σ (L'.1 101); rw [b]; exact ⟨hy, k2⟩
  have b4 : Tm (fun k => y_X0_binary k 4 L σ) (Va g t σ) := by
    refine Tm_suc (fun k => by rw [y_X0_binary]) ?_
    refine Tm_oc (c_areWholes h hx hy) (fun r1 z1 => ?_)
    have e1 : r1.2 = σ := z1.1
    rw [e1]
    refine Tm_ite (fun _ => ?_) (fun c => ?_)
    · refine Tm_suc (fun k => by rw [y_X0_binary]) ?_
      exact s23 _ _ (Va_e h (AXf_r σ) eKind)
    · have k := z1.2 c
      refine Tm_ite (fun _ => s14 _ rfl rfl k.1 k.2) (fun _ => ?_)
      refine Tm_suc (fun k => by rw [y_X0_binary]) ?_
      exact s14 _ rfl rfl k.1 k.2
  have b9 : Tm (fun k => y_X0_binary k 9 L σ) (Va g t σ) := by
    refine Tm_suc (fun k => by rw [y_X0_binary]) ?_
    refine Tm_oc (c_contains h hy hx) (fun r q => ?_)
    have e : r.2 = σ := q.1
    rw [e]
    exact Tm_some (q.2.elim (fun z => Va_g h (AXf_r σ) z) (fun z => Va_e h (AXf_r σ) z))
  have b10 : Tm (fun k => y_X0_binary k 10 L σ) (Va g t σ) := by
    refine Tm_suc (fun k => by rw [y_X0_binary]) ?_
    refine Tm_oc (c_contains h hy hx) (fun r q => ?_)
    have e : r.2 = σ := q.1
    rw [e]
    refine Tm_oc c_isError (fun r2 q2 => ?_)
    have e2 : r2.2 = σ := q2.1.1
    rw [e2]
    refine Tm_ite (fun _ => ?_) (fun _ => s20 _ _ (q.2.elim (fun z => Va_g h (AXf_r σ) z) (fun z => Va_e h (AXf_r σ) z)))
    refine Tm_suc (fun k => by rw [y_X0_binary]) ?_
    refine Tm_ite (fun _ => s25 _) (fun _ => ?_)
    refine Tm_suc (fun k => by rw [y_X0_binary]) ?_
    exact s25 _
  have b11 : Tm (fun k => y_X0_binary k 11 L σ) (Va g t σ) := by
    refine Tm_suc (fun k => by rw [y_X0_binary]) ?_
    refine Tm_oc (c_areSets h hx hy) (fun r2 z2 => ?_)
    have e2 : r2.2 = σ := z2.1
    rw [e2]
    refine Tm_ite (fun _ => ?_) (fun c => ?_)
    · refine Tm_suc (fun k => by rw [y_X0_binary]) ?_
      exact s22 _ _ (Va_e h (AXf_r σ) eKind)
    · have k := z2.2 c
      have k1 : kdC (σ.2.2.1 3) (L.1 2) = 6 := k.1
      have k2 : kdC (σ.2.2.1 3) (L.1 3) = 6 := k.2
      refine Tm_oc (c_isSubset h (Sq5_k hx (by show 5 ≤ kdC (σ.2.2.1 3) (L.1 2); omega)) (Sq5_k hy (by show 5 ≤ kdC (σ.2.2.1 3) (L.1 3); omega))) (fun r q => ?_)
      have e : r.2 = σ := q
      rw [e]
      refine Tm_oc c_truth (fun r3 q3 => ?_)
      have e3 : r3.2 = σ := q3.1
      rw [e3]
      exact s22 _ _ (Va_g h (AXf_r σ) (q3.2 g))
  refine Tm_suc (fun k => by rw [y_X0_binary]) ?_
  refine Tm_ite (fun _ => ?_) (fun _ => Tm_ite (fun _ => ?_) (fun _ => Tm_ite (fun _ => ?_) (fun _ => Tm_ite (fun _ => b4) (fun _ => Tm_ite (fun _ => b4) (fun _ => Tm_ite (fun _ => ?_) (fun _ => Tm_ite (fun _ => ?_) (fun _ => Tm_ite (fun _ => ?_) (fun _ => Tm_ite (fun _ => b8) (fun _ => Tm_ite (fun _ => b8) (fun _ => Tm_ite (fun _ => b8) (fun _ => Tm_ite (fun _ => b8) (fun _ => Tm_ite (fun _ => b9) (fun _ => Tm_ite (fun _ => b10) (fun _ => Tm_ite (fun _ => b11) (fun _ => b8)))))))))))))))
  · refine Tm_suc (fun k => by rw [y_X0_binary]) ?_
    exact Tm_oc (c_sum h hx hy) (fun r q => Tm_some q)
  · refine Tm_suc (fun k => by rw [y_X0_binary]) ?_
    exact Tm_oc (c_difference h hx hy) (fun r q => Tm_some q)
  · refine Tm_suc (fun k => by rw [y_X0_binary]) ?_
    exact Tm_oc (c_productA h hx hy) (fun r q => Tm_some q)
  · refine Tm_suc (fun k => by rw [y_X0_binary]) ?_
    refine Tm_oc (c_areWholes h hx hy) (fun r1 z1 => ?_)
    have e1 : r1.2 = σ := z1.1
    rw [e1]
    refine Tm_ite (fun _ => ?_) (fun c => ?_)
    · refine Tm_suc (fun k => by rw [y_X0_binary]) ?_
      exact s16 _ _ (Va_e h (AXf_r σ) eKind)
    · have k := z1.2 c
      exact Tm_oc (c_power h ⟨hx, k.1⟩ ⟨hy, k.2⟩) (fun r q => s16 _ _ (Va_V q))
  · refine Tm_suc (fun k => by rw [y_X0_binary]) ?_
    refine Tm_oc (c_same h hx hy) (fun r q => ?_)
    have e : r.2 = σ := q.1
    rw [e]
    refine Tm_oc c_truth (fun r3 q3 => ?_)
    have e3 : r3.2 = σ := q3.1
    rw [e3]
    exact Tm_some (Va_g h (AXf_r σ) (q3.2 g))
  · refine Tm_suc (fun k => by rw [y_X0_binary]) ?_
    refine Tm_oc (c_same h hx hy) (fun r q => ?_)
    have e : r.2 = σ := q.1
    rw [e]
    refine Tm_ite (fun _ => s18 _) (fun _ => ?_)
    refine Tm_suc (fun k => by rw [y_X0_binary]) ?_
    exact s18 _
theorem c_charOf (h : HQ g l t σ) (hx : Gv g (L.1 1)) : Tm (fun k => y_X0_charOf k 0 L σ) (Qv g σ) := by
  have b2 : ∀ L' : LV, (Gv g (L'.1 100) ∨ Rw (L'.1 100)) → Tm (fun k => y_X0_charOf k 2 L' σ) (Qv g σ) := by
    intro L' d
    refine Tm_suc (fun k => by rw [y_X0_charOf]) ?_
    exact Tm_some ⟨rfl, d⟩
  have b1 : ∀ L' : LV, Tm (fun k => y_X0_charOf k 1 L' σ) (Qv g σ) := by
    intro L'
    refine Tm_suc (fun k => by rw [y_X0_charOf]) ?_
    exact b2 _ (Or.inr ePlace)
  refine Tm_suc (fun k => by rw [y_X0_charOf]) ?_
  refine Tm_oc (c_clamped h hx) (fun r q => ?_)
  have e : r.2 = σ := q
  rw [e]
  refine Tm_ite (fun _ => b1 _) (fun c => Tm_ite (fun _ => b1 _) (fun c2 => ?_))
  rw [u_neg] at c
  rw [u_ltn (by decide) (by omega)] at c2
  have c3 : uN r.1 ≤ 255 := Nat.le_of_not_lt c2
  refine b2 _ (Or.inl (Or.inl ?_))
  show 2147483648 ≤ uN (-1073741824 ||| r.1) ∧ (uN (-1073741824 ||| r.1) < 3489660928 ∨ (4026531840 ≤ uN (-1073741824 ||| r.1) ∧ ¬ uN (-1073741824 ||| r.1) % 16 = 0))
  rw [u_orB (k := 8) (a := 12582912) (by omega) (by decide)]
  have e0 : uN (-1073741824) = 3221225472 := rfl
  omega
theorem c_codeOf (h : HQ g l t σ) (hx : Gv g (L.1 1)) (kx : kdC (σ.2.2.1 3) (L.1 1) = 4) : Tm (fun k => y_X0_codeOf k 0 L σ) (Qv g σ) := by
  have la := lnC_lt (σ.2.2.1 3) (L.1 1)
  have b2 : ∀ L' : LV, (Gv g (L'.1 100) ∨ Rw (L'.1 100)) → Tm (fun k => y_X0_codeOf k 2 L' σ) (Qv g σ) := by
    intro L' d
    refine Tm_suc (fun k => by rw [y_X0_codeOf]) ?_
    exact Tm_some ⟨rfl, d⟩
  refine Tm_suc (fun k => by rw [y_X0_codeOf]) ?_
  refine Tm_ocE (c_length h hx) ?_
  refine Tm_ite (fun c => ?_) (fun _ => ?_)
  · have c' : nI (lnC (σ.2.2.1 3) (L.1 1)) = 1 := c
    rw [u_eq, u_n (by omega)] at c'
    have c2 : lnC (σ.2.2.1 3) (L.1 1) = 1 := c'
    refine Tm_oc (c_byteAt h hx (fun _ => ⟨kx, by show uN 0 < lnC (σ.2.2.1 3) (L.1 1); rw [c2]; decide⟩)) (fun r q => ?_)
    have e : r.2 = σ := q.1
    rw [e]
    refine Tm_oc c_small (fun r2 q2 => ?_)
    have e2 : r2.2 = σ := q2.1
    rw [e2]
    exact b2 _ (Or.inl (W2_i (g := g) σ q2.2.1 q2.2.2).1)
  · refine Tm_suc (fun k => by rw [y_X0_codeOf]) ?_
    exact b2 _ (Or.inr ePlace)
end CRW
end JnS359
section JnS360
/-! The class: parts of values. -/
section CRX
variable {g g' g2 : Nat → Prop} {l l' l2 : List Nat} {t t' t2 : Nat} {σ σ' σ2 : CS} {L : LV} {x y i : Int32} {M M' : Nat → Int32}
theorem c_load0x (h : HQ g l t σ) (hx : Sq5 g σ (L.1 1)) (ha : uN (L.1 2) < 2147483648) (hb : uN (L.1 3) ≤ lnC (σ.2.2.1 3) (L.1 1)) (hc : uN (L.1 4) ≤ 2048) (hr : ∀ j, j < uN (L.1 4) → Gv g (σ.2.2.1 16 j)) : Tm (fun k => y_X0_load k 0 L σ) (fun r => ∃ f, r.2 = uF σ 16 f ∧ uN r.1 ≤ 2048 ∧ (∀ j, j < uN r.1 → Gv g (f j)) ∧ (uN (L.1 1) < 2147483648 → uN (L.1 2) ≤ uN (L.1 3) → uN (L.1 3) - uN (L.1 2) ≤ 2048 - uN (L.1 4) → uN r.1 = uN (L.1 4) + (uN (L.1 3) - uN (L.1 2)))) := by
  have ll := lnC_lt (σ.2.2.1 3) (L.1 1)
  have b1 : ∀ L' : LV, L'.1 4 = L.1 4 → (uN (L.1 1) < 2147483648 → uN (L.1 2) ≤ uN (L.1 3) → uN (L.1 3) - uN (L.1 2) ≤ 2048 - uN (L.1 4) → uN (L.1 3) - uN (L.1 2) = 0) → Tm (fun k => y_X0_load k 1 L' σ) (fun r => ∃ f, r.2 = uF σ 16 f ∧ uN r.1 ≤ 2048 ∧ (∀ j, j < uN r.1 → Gv g (f j)) ∧ (uN (L.1 1) < 2147483648 → uN (L.1 2) ≤ uN (L.1 3) → uN (L.1 3) - uN (L.1 2) ≤ 2048 - uN (L.1 4) → uN r.1 = uN (L.1 4) + (uN (L.1 3) - uN (L.1 2)))) := by
    intro L' a4 hz
    refine Tm_suc (fun k => by rw [y_X0_load]) ?_
    refine Tm_some ⟨σ.2.2.1 16, (uF_id σ 16).symm, ?_, ?_, ?_⟩
    · show uN (L'.1 4) ≤ _; rw [a4]; exact hc
    · show ∀ j, j < uN (L'.1 4) → _; rw [a4]; exact hr
    · intro z1 z2 z3
      show uN (L'.1 4) = _
      rw [a4, hz z1 z2 z3]; rfl
  have eA : uN (Int32.ofNat 2048 - L.1 4) = 2048 - uN (L.1 4) := by
    rw [u_sub (by show _ ≤ 2048; exact hc)]; rfl
  refine Tm_suc (fun k => by rw [y_X0_load]) ?_
  generalize hN : (if Int32.ofNat 2048 - L.1 4 < L.1 3 - L.1 2 then Int32.ofNat 2048 - L.1 4 else L.1 3 - L.1 2) = N
  refine Tm_ite (fun cN => b1 _ rfl (fun z1 z2 z3 => ?_)) (fun cN => Tm_ite (fun cx => ?_) (fun cx => b1 _ rfl (fun z1 _ _ => absurd z1 (by rw [u_nn] at cx; exact cx))))
  · have e : uN (L.1 3 - L.1 2) = uN (L.1 3) - uN (L.1 2) := u_sub z2
    rw [i_le, u_int N] at cN
    have c' : (if uN N < 2147483648 then (uN N : Int) else (uN N : Int) - 4294967296) ≤ 0 := cN
    split at hN
    · rename_i c
      rw [u_ltn (by omega) (by omega), eA, e] at c
      omega
    · rw [← hN, e, if_pos (by omega)] at c'
      omega
  rw [u_nn] at cx
  have n1 : 1 ≤ uN N ∧ uN N < 2147483648 := by
    rw [i_le, u_int N] at cN
    have c' : ¬ (if uN N < 2147483648 then (uN N : Int) else (uN N : Int) - 4294967296) ≤ 0 := cN
    have := u_lt N
    split at c' <;> omega
  have n2 : uN (L.1 2) ≤ uN (L.1 3) ∧ uN N ≤ uN (L.1 3) - uN (L.1 2) ∧ uN N ≤ 2048 - uN (L.1 4) := by
    rcases Nat.lt_or_ge (uN (L.1 3)) (uN (L.1 2)) with z | z
    · have q := u_subn z ha
      exfalso
      split at hN
      · rename_i c
        rw [i_lt, u_int, u_int, if_pos (by omega), if_neg (by omega)] at c
        have := u_lt (L.1 3 - L.1 2)
        omega
      · rw [hN] at q; omega
    · have e : uN (L.1 3 - L.1 2) = uN (L.1 3) - uN (L.1 2) := u_sub z
      split at hN
      · rename_i c
        rw [u_ltn (by omega) (by omega), eA, e] at c
        rw [← hN, eA]
        omega
      · rename_i c
        rw [u_ltn (by omega) (by omega), eA, e] at c
        rw [← hN, e]
        omega
  have cg := Gv_c hx.1 cx
  have hq := HQ_c h cg.2
  have k5 := hx.2 cx
  unfold kdC at k5
  rw [if_pos cx] at k5
  have w5 := hdW_5 k5
  have el : lnC (σ.2.2.1 3) (L.1 1) = hdL (uN (σ.2.2.1 3 (uN (L.1 1)))) := if_pos cx
  have fx := hq.2.2.2.2.2.2.2.2.2.1 k5
  have e1 : uN (L.1 1 + 1 + L.1 2) = uN (L.1 1) + 1 + uN (L.1 2) := by
    rw [u_add (by rw [u_inc (by omega)]; omega), u_inc (by omega)]
  refine Tm_suc (fun k => by rw [y_X0_load]) ?_
  refine Tm_chk ⟨?_, ?_, ?_, ?_, ?_⟩ ?_
  · show ¬ L.1 1 + 1 + L.1 2 < 0
    rw [u_neg]; omega
  · show ¬ L.1 4 < 0
    rw [u_neg]; omega
  · show ¬ N < 0
    rw [u_neg]; omega
  · show (L.1 1 + 1 + L.1 2).toNatClampNeg + N.toNatClampNeg ≤ sN σ 3
    rw [u_cl (by omega), u_cl (by omega)]; omega
  · show (L.1 4).toNatClampNeg + N.toNatClampNeg ≤ 2048
    rw [u_cl (by omega), u_cl (by omega)]; omega
  refine Tm_some ⟨_, rfl, ?_, ?_, ?_⟩
  · show uN (L.1 4 + N) ≤ 2048
    rw [u_add (by omega)]; omega
  · show ∀ j, j < uN (L.1 4 + N) → Gv g (va_cpy (σ.2.2.1 3) (σ.2.2.1 16) (L.1 1 + 1 + L.1 2).toNatClampNeg (L.1 4).toNatClampNeg N.toNatClampNeg j)
    intro j hj
    rw [u_add (by omega)] at hj
    rw [u_cl (x := L.1 1 + 1 + L.1 2) (by omega), u_cl (x := L.1 4) (by omega), u_cl (x := N) (by omega), e1]
    unfold va_cpy
    by_cases c : uN (L.1 4) ≤ j ∧ j < uN (L.1 4) + uN N
    · rw [if_pos c, show uN (L.1 1) + 1 + uN (L.1 2) + (j - uN (L.1 4)) = uN (L.1 1) + 1 + (uN (L.1 2) + (j - uN (L.1 4))) from by omega]
      exact (fx.2.2 _ (by omega)).1
    · rw [if_neg c]
      exact hr j (by omega)
  · intro _ z2 z3
    show uN (L.1 4 + N) = _
    rw [u_add (by omega)]
    have e : uN (L.1 3 - L.1 2) = uN (L.1 3) - uN (L.1 2) := u_sub z2
    split at hN
    · rename_i c
      rw [u_ltn (by omega) (by omega), eA, e] at c
      omega
    · rw [← hN, e]
/-- a map -/
def MpV (g : Nat → Prop) (σ : CS) (x : Int32) : Prop := Gv g x ∧ uN x < 2147483648 ∧ kdC (σ.2.2.1 3) x = 6 ∧ uN (σ.2.2.1 3 (uN x)) / 8 % 2 = 1
theorem MpV_X (w : AXf σ σ') (h : MpV g σ x) : MpV g σ' x := by
  unfold MpV
  rw [w.2.2.1 3 (by decide)]
  exact h
theorem MpV_s (h : MpV g σ x) : Sq5 g σ x := Sq5_k h.1 (by have := h.2.2.1; omega)
/-- its members are pairs -/
theorem mp_sq (h : HQ g l t σ) (m : MpV g σ x) (y : Int32) : Sq5 g σ (mbC (σ.2.2.1 3) x y) := by
  have gm := mbC_g (y := y) h m.1 (MpV_s m).2
  refine ⟨gm, fun c => ?_⟩
  have cg := (HQ_c h (Gv_c m.1 m.2.1).2).2.2.2.2.2.2.2.2.2.2
  have k6 := m.2.2.1
  unfold kdC at k6
  rw [if_pos m.2.1] at k6
  by_cases d : uN x < 2147483648 ∧ uN y < lnC (σ.2.2.1 3) x
  · have e : mbC (σ.2.2.1 3) x y = σ.2.2.1 3 (uN x + 1 + uN y) := if_pos d
    rw [e] at c ⊢
    have dl := d.2
    unfold lnC at dl
    rw [if_pos m.2.1] at dl
    have q := (cg k6 m.2.2.2 (uN y) dl).2
    unfold kdC
    rw [if_pos c]
    unfold hdK
    omega
  · have e : mbC (σ.2.2.1 3) x y = -2147483648 := if_neg d
    rw [e] at c
    exact absurd c (by decide)
theorem c_pairsFrom (h : HQ g l t σ) (hx : MpV g σ (L.1 1)) (hy : Gv g (L.1 2)) : Tm (fun k => y_X0_pairsFrom k 0 L σ) (fun r => r.2 = σ ∧ uN r.1 ≤ lnC (σ.2.2.1 3) (L.1 1)) := by
  have ll := lnC_lt (σ.2.2.1 3) (L.1 1)
  have sx := MpV_s hx
  have b2 : ∀ L' : LV, uN (L'.1 3) ≤ lnC (σ.2.2.1 3) (L.1 1) → Tm (fun k => y_X0_pairsFrom k 2 L' σ) (fun r => r.2 = σ ∧ uN r.1 ≤ lnC (σ.2.2.1 3) (L.1 1)) := by
    intro L' a
    refine Tm_suc (fun k => by rw [y_X0_pairsFrom]) ?_
    exact Tm_some ⟨rfl, a⟩
  have b1 : ∀ (m : Nat) (L' : LV), uN (L'.1 5) + m = 32 → L'.1 1 = L.1 1 → L'.1 2 = L.1 2 → uN (L'.1 3) ≤ lnC (σ.2.2.1 3) (L.1 1) → uN (L'.1 4) ≤ lnC (σ.2.2.1 3) (L.1 1) → Tm (fun k => y_X0_pairsFrom k 1 L' σ) (fun r => r.2 = σ ∧ uN r.1 ≤ lnC (σ.2.2.1 3) (L.1 1)) := by
    intro m
    induction m with
    | zero =>
      intro L' a6 a1 a3 a4 a5
      refine Tm_suc (fun k => by rw [y_X0_pairsFrom]) ?_
      exact Tm_yes (by rw [u_le (by decide) (by omega)]; show 32 ≤ _; omega) (b2 _ a4)
    | succ m ih =>
      intro L' a6 a1 a3 a4 a5
      have b4 : ∀ L2 : LV, L2.1 5 = L'.1 5 → L2.1 1 = L.1 1 → L2.1 2 = L.1 2 → uN (L2.1 3) ≤ lnC (σ.2.2.1 3) (L.1 1) → uN (L2.1 4) ≤ lnC (σ.2.2.1 3) (L.1 1) → Tm (fun k => y_X0_pairsFrom k 4 L2 σ) (fun r => r.2 = σ ∧ uN r.1 ≤ lnC (σ.2.2.1 3) (L.1 1)) := by
        intro L2 z6 z1 z3 z4 z5
        refine Tm_suc (fun k => by rw [y_X0_pairsFrom]) ?_
        refine ih _ ?_ ?_ ?_ ?_ ?_
        · show uN (L2.1 5 + 1) + m = 32
          rw [z6, u_inc (by omega)]; omega
        · exact z1
        · exact z3
        · exact z4
        · exact z5
      have eh : uN ((((L'.1 3) + (L'.1 4)).toUInt32 >>> ((1 : Int32).toUInt32 &&& Int32.toUInt32 31)).toInt32) = (uN (L'.1 3) + uN (L'.1 4)) / 2 := by
        rw [u_shr1, u_add (by omega)]
      have hx' : MpV g σ (L'.1 1) := by rw [a1]; exact hx
      have sx' := MpV_s hx'
      refine Tm_suc (fun k => by rw [y_X0_pairsFrom]) ?_
      refine Tm_ite (fun _ => b2 _ a4) (fun _ => Tm_ite (fun _ => b2 _ a4) (fun c => ?_))
      rw [u_le (by omega) (by omega)] at c
      refine Tm_ocE (c_member h sx'.1 sx'.2) ?_
      have sp := mp_sq h hx' ((((L'.1 3) + (L'.1 4)).toUInt32 >>> ((1 : Int32).toUInt32 &&& Int32.toUInt32 31)).toInt32)
      refine Tm_ocE (c_member h sp.1 sp.2) ?_
      refine Tm_oc (c_compare h (mbC_g h sp.1 sp.2) (by show Gv g (L'.1 2); rw [a3]; exact hy)) (fun r hr => ?_)
      have e : r.2 = σ := hr
      rw [e]
      refine Tm_ite (fun _ => ?_) (fun _ => ?_)
      · refine Tm_suc (fun k => by rw [y_X0_pairsFrom]) ?_
        refine b4 _ ?_ ?_ ?_ ?_ ?_
        · rfl
        · exact a1
        · exact a3
        · exact a4
        · show uN ((((L'.1 3) + (L'.1 4)).toUInt32 >>> ((1 : Int32).toUInt32 &&& Int32.toUInt32 31)).toInt32) ≤ _
          omega
      · refine b4 _ ?_ ?_ ?_ ?_ ?_
        · rfl
        · exact a1
        · exact a3
        · show uN ((((L'.1 3) + (L'.1 4)).toUInt32 >>> ((1 : Int32).toUInt32 &&& Int32.toUInt32 31)).toInt32 + 1) ≤ _
          rw [u_inc (by omega)]; omega
        · exact a5
  refine Tm_suc (fun k => by rw [y_X0_pairsFrom]) ?_
  refine Tm_ocE (c_length h sx.1) ?_
  refine b1 32 _ ?_ ?_ ?_ ?_ ?_
  · rfl
  · rfl
  · rfl
  · exact Nat.zero_le _
  · show uN (nI (lnC (σ.2.2.1 3) (L.1 1))) ≤ _
    rw [u_n (by omega)]; exact Nat.le_refl _
theorem c_pairsTo (h : HQ g l t σ) (hx : MpV g σ (L.1 1)) (hy : Gv g (L.1 3)) (hf : uN (L.1 2) ≤ lnC (σ.2.2.1 3) (L.1 1)) : Tm (fun k => y_X0_pairsTo k 0 L σ) (fun r => r.2 = σ ∧ uN (L.1 2) ≤ uN r.1 ∧ uN r.1 ≤ lnC (σ.2.2.1 3) (L.1 1)) := by
  have ll := lnC_lt (σ.2.2.1 3) (L.1 1)
  have b2 : ∀ L' : LV, uN (L.1 2) ≤ uN (L'.1 4) → uN (L'.1 4) ≤ lnC (σ.2.2.1 3) (L.1 1) → Tm (fun k => y_X0_pairsTo k 2 L' σ) (fun r => r.2 = σ ∧ uN (L.1 2) ≤ uN r.1 ∧ uN r.1 ≤ lnC (σ.2.2.1 3) (L.1 1)) := by
    intro L' a b
    refine Tm_suc (fun k => by rw [y_X0_pairsTo]) ?_
    exact Tm_some ⟨rfl, a, b⟩
  have b1 : ∀ (m : Nat) (L' : LV), uN (L'.1 5) + m = lnC (σ.2.2.1 3) (L.1 1) → L'.1 1 = L.1 1 → L'.1 3 = L.1 3 → L'.1 4 = L'.1 5 → uN (L.1 2) ≤ uN (L'.1 5) → Tm (fun k => y_X0_pairsTo k 1 L' σ) (fun r => r.2 = σ ∧ uN (L.1 2) ≤ uN r.1 ∧ uN r.1 ≤ lnC (σ.2.2.1 3) (L.1 1)) := by
    intro m
    induction m with
    | zero =>
      intro L' a5 a1 a3 a4 af
      refine Tm_suc (fun k => by rw [y_X0_pairsTo]) ?_
      refine Tm_ocE (c_length h (by show Gv g (L'.1 1); rw [a1]; exact hx.1)) ?_
      refine Tm_yes ?_ (b2 _ (by rw [a4]; exact af) (by rw [a4]; omega))
      show nI (lnC (σ.2.2.1 3) (L'.1 1)) ≤ L'.1 5
      rw [a1, u_le (by rw [u_n (by omega)]; omega) (by omega), u_n (by omega)]
      omega
    | succ m ih =>
      intro L' a5 a1 a3 a4 af
      have hx' : MpV g σ (L'.1 1) := by rw [a1]; exact hx
      have sx' := MpV_s hx'
      have sp := mp_sq h hx' (L'.1 5)
      refine Tm_suc (fun k => by rw [y_X0_pairsTo]) ?_
      refine Tm_ocE (c_length h sx'.1) ?_
      refine Tm_ite (fun _ => b2 _ (by rw [a4]; exact af) (by rw [a4]; omega)) (fun _ => ?_)
      refine Tm_ocE (c_member h sx'.1 sx'.2) ?_
      refine Tm_ocE (c_member h sp.1 sp.2) ?_
      refine Tm_oc (c_compare h (mbC_g h sp.1 sp.2) (by show Gv g (L'.1 3); rw [a3]; exact hy)) (fun r hr => ?_)
      have e : r.2 = σ := hr
      rw [e]
      refine Tm_ite (fun _ => ?_) (fun _ => b2 _ (by rw [a4]; exact af) (by rw [a4]; omega))
      have e5 : uN (L'.1 5 + 1) = uN (L'.1 5) + 1 := u_inc (by omega)
      refine ih _ ?_ ?_ ?_ ?_ ?_
      · show uN (L'.1 5 + 1) + m = _; omega
      · exact a1
      · exact a3
      · rfl
      · show _ ≤ uN (L'.1 5 + 1); omega
  refine Tm_suc (fun k => by rw [y_X0_pairsTo]) ?_
  refine b1 (lnC (σ.2.2.1 3) (L.1 1) - uN (L.1 2)) _ ?_ ?_ ?_ ?_ ?_
  · show uN (L.1 2) + _ = _; omega
  · rfl
  · rfl
  · rfl
  · exact Nat.le_refl _
theorem c_images (h : HQ g l t σ) (hx : MpV g σ (L.1 1)) (hy : Gv g (L.1 2)) : Tm (fun k => y_X0_images k 0 L σ) (Va g t σ) := by
  have ll := lnC_lt (σ.2.2.1 3) (L.1 1)
  have b2 : ∀ (L' : LV) (σ' : CS), AXf σ σ' → uN (L'.1 5) ≤ 2048 → (∀ j, j < uN (L'.1 5) → Gv g (σ'.2.2.1 16 j)) → Tm (fun k => y_X0_images k 2 L' σ') (Va g t σ) := by
    intro L' σ' w a4 hr
    refine Tm_suc (fun k => by rw [y_X0_images]) ?_
    exact Tm_oc (mk16 (n := 0) h w (Or.inr rfl) rfl rfl a4 hr) (fun r z => Tm_some z)
  have b1 : ∀ (m : Nat) (L' : LV) (σ' : CS), AXf σ σ' → L'.1 1 = L.1 1 → uN (L'.1 4) ≤ 4096 → uN (L'.1 6) + m = 4097 → uN (L'.1 5) ≤ 2048 → (∀ j, j < uN (L'.1 5) → Gv g (σ'.2.2.1 16 j)) → Tm (fun k => y_X0_images k 1 L' σ') (Va g t σ) := by
    intro m
    induction m with
    | zero =>
      intro L' σ' w a1 a4 a6 a5 hr
      refine Tm_suc (fun k => by rw [y_X0_images]) ?_
      exact Tm_yes (by rw [u_le (by omega) (by omega)]; omega) (b2 _ _ w a5 hr)
    | succ m ih =>
      intro L' σ' w a1 a4 a6 a5 hr
      have h' := HQ_X h w
      have hx' : MpV g σ' (L'.1 1) := MpV_X w (by rw [a1]; exact hx)
      have sx' := MpV_s hx'
      have sp := mp_sq h' hx' (L'.1 6)
      refine Tm_suc (fun k => by rw [y_X0_images]) ?_
      refine Tm_ite (fun _ => b2 _ _ w a5 hr) (fun _ => Tm_ite (fun _ => b2 _ _ w a5 hr) (fun c => ?_))
      rw [u_le (by decide) (by omega)] at c
      have c' : uN (L'.1 5) < 2048 := Nat.lt_of_not_le c
      refine Tm_ocE (c_member h' sx'.1 sx'.2) ?_
      refine Tm_ocE (c_member h' sp.1 sp.2) ?_
      refine Tm_chk (u_in c' (by decide)) ?_
      have e5 : uN (L'.1 5 + 1) = uN (L'.1 5) + 1 := u_inc (by omega)
      refine ih _ _ (AXf_t w (AXf_A _ (by decide) _ _)) ?_ ?_ ?_ ?_ ?_
      · exact a1
      · exact a4
      · show uN (L'.1 6 + 1) + m = _
        rw [u_inc (by omega)]; omega
      · show uN (L'.1 5 + 1) ≤ 2048; omega
      · show ∀ j, j < uN (L'.1 5 + 1) → Gv g ((uA σ' 16 (L'.1 5).toNatClampNeg (mbC (σ'.2.2.1 3) (mbC (σ'.2.2.1 3) (L'.1 1) (L'.1 6)) 1)).2.2.1 16 j)
        rw [e5, u_cl (by omega)]
        exact r16_p hr (mbC_g h' sp.1 sp.2)
  refine Tm_suc (fun k => by rw [y_X0_images]) ?_
  refine Tm_oc (c_pairsFrom h hx hy) (fun r1 q1 => ?_)
  have e1 : r1.2 = σ := q1.1
  rw [e1]
  refine Tm_oc (c_pairsTo h hx hy q1.2) (fun r2 q2 => ?_)
  have e2 : r2.2 = σ := q2.1
  rw [e2]
  have p1 : uN r1.1 ≤ lnC (σ.2.2.1 3) (L.1 1) := q1.2
  have p2 : uN r2.1 ≤ lnC (σ.2.2.1 3) (L.1 1) := q2.2.2
  refine b1 (4097 - uN r1.1) _ _ (AXf_r σ) ?_ ?_ ?_ ?_ ?_
  · rfl
  · show uN r2.1 ≤ 4096; omega
  · show uN r1.1 + _ = _; omega
  · show uN 0 ≤ 2048; decide
  · intro j hj; exact absurd hj (Nat.not_lt_zero j)
end CRX
end JnS360
section JnS361
/-! The class: parts and rows of values. -/
section CRY
variable {g g' g2 : Nat → Prop} {l l' l2 : List Nat} {t t' t2 : Nat} {σ σ' σ2 : CS} {L : LV} {x y i : Int32} {M M' : Nat → Int32}
/-- a whole as a place -/
def clC (M : Nat → Int32) (x : Int32) : Int32 := if uN x < 2147483648 then (if uN (M (uN x)) / 8 % 2 = 0 then 134217728 else -134217728) else (x <<< ((4 : Int32) &&& 31)) >>> ((4 : Int32) &&& 31)
theorem c_clampedE (h : HQ g l t σ) (hx : Gv g (L.1 1)) : Tm (fun k => y_X10_clamped k 0 L σ) (fun r => r = (clC (σ.2.2.1 3) (L.1 1), σ)) := by
  unfold clC
  refine Tm_suc (fun k => by rw [y_X10_clamped]) ?_
  refine Tm_ite (fun c => ?_) (fun c => ?_)
  · rw [u_nn] at c
    rw [if_pos c]
    refine Tm_suc (fun k => by rw [y_X10_clamped]) ?_
    refine Tm_chk (in_g h hx c) ?_
    refine Tm_ite (fun d => ?_) (fun d => ?_)
    · rw [e_flg, u_cl c] at d
      rw [if_pos d]
      refine Tm_suc (fun k => by rw [y_X10_clamped]) ?_
      refine Tm_suc (fun k => by rw [y_X10_clamped]) ?_
      exact Tm_some rfl
    · rw [e_flg, u_cl c] at d
      rw [if_neg d]
      refine Tm_suc (fun k => by rw [y_X10_clamped]) ?_
      exact Tm_some rfl
  · rw [u_nn] at c
    rw [if_neg c]
    exact Tm_some rfl
theorem c_domain (h : HQ g l t σ) (hx : MpV g σ (L.1 1)) : Tm (fun k => y_X0_domain k 0 L σ) (Va g t σ) := by
  have ll := lnC_lt (σ.2.2.1 3) (L.1 1)
  have b2 : ∀ (L' : LV) (σ' : CS), AXf σ σ' → uN (L'.1 2) ≤ 2048 → (∀ j, j < uN (L'.1 2) → Gv g (σ'.2.2.1 16 j)) → Tm (fun k => y_X0_domain k 2 L' σ') (Va g t σ) := by
    intro L' σ' w a4 hr
    refine Tm_suc (fun k => by rw [y_X0_domain]) ?_
    exact Tm_oc (mk16 (n := 0) h w (Or.inr rfl) rfl rfl a4 hr) (fun r z => Tm_some z)
  have b1 : ∀ (m : Nat) (L' : LV) (σ' : CS), AXf σ σ' → L'.1 1 = L.1 1 → uN (L'.1 3) + m = lnC (σ.2.2.1 3) (L.1 1) → uN (L'.1 2) ≤ 2048 → (∀ j, j < uN (L'.1 2) → Gv g (σ'.2.2.1 16 j)) → Tm (fun k => y_X0_domain k 1 L' σ') (Va g t σ) := by
    intro m
    induction m with
    | zero =>
      intro L' σ' w a1 a3 a2 hr
      have r3 : σ'.2.2.1 3 = σ.2.2.1 3 := w.2.2.1 3 (by decide)
      refine Tm_suc (fun k => by rw [y_X0_domain]) ?_
      refine Tm_ocE (c_length (HQ_X h w) (by show Gv g (L'.1 1); rw [a1]; exact hx.1)) ?_
      refine Tm_yes ?_ (b2 _ _ w a2 hr)
      show nI (lnC (σ'.2.2.1 3) (L'.1 1)) ≤ L'.1 3
      rw [r3, a1, u_le (by rw [u_n (by omega)]; omega) (by omega), u_n (by omega)]
      omega
    | succ m ih =>
      intro L' σ' w a1 a3 a2 hr
      have h' := HQ_X h w
      have hx' : MpV g σ' (L'.1 1) := MpV_X w (by rw [a1]; exact hx)
      have sx' := MpV_s hx'
      have sp := mp_sq h' hx' (L'.1 3)
      have b5 : ∀ (L2 : LV) (σ2 : CS), AXf σ σ2 → L2.1 1 = L.1 1 → L2.1 3 = L'.1 3 → uN (L2.1 2) ≤ 2048 → (∀ j, j < uN (L2.1 2) → Gv g (σ2.2.2.1 16 j)) → Tm (fun k => y_X0_domain k 5 L2 σ2) (Va g t σ) := by
        intro L2 σ2 w2 z1 z3 z2 zr
        refine Tm_suc (fun k => by rw [y_X0_domain]) ?_
        refine ih _ _ w2 ?_ ?_ ?_ ?_
        · exact z1
        · show uN (L2.1 3 + 1) + m = _
          rw [z3, u_inc (by omega)]; omega
        · exact z2
        · exact zr
      refine Tm_suc (fun k => by rw [y_X0_domain]) ?_
      refine Tm_ocE (c_length h' sx'.1) ?_
      refine Tm_ite (fun _ => b2 _ _ w a2 hr) (fun _ => Tm_ite (fun _ => b2 _ _ w a2 hr) (fun c => ?_))
      rw [u_le (by decide) (by omega)] at c
      have c' : uN (L'.1 2) < 2048 := Nat.lt_of_not_le c
      refine Tm_ocE (c_member h' sx'.1 sx'.2) ?_
      refine Tm_ocE (c_member h' sp.1 sp.2) ?_
      have gm := mbC_g (y := 0) h' sp.1 sp.2
      refine Tm_ite (fun _ => Tm_some (Va_e h w (by show 4026531840 ≤ uN (-268435453) ∧ ¬ uN (-268435453) % 16 = 0; decide))) (fun _ => ?_)
      have b4 : ∀ (L2 : LV), L2.1 1 = L.1 1 → L2.1 3 = L'.1 3 → L2.1 2 = L'.1 2 → Gv g (L2.1 4) → Tm (fun k => y_X0_domain k 4 L2 σ') (Va g t σ) := by
        intro L2 z1 z3 z2 z4
        refine Tm_suc (fun k => by rw [y_X0_domain]) ?_
        refine Tm_chk (u_in (by rw [z2]; exact c') (by decide)) ?_
        have e5 : uN (L2.1 2 + 1) = uN (L'.1 2) + 1 := by rw [z2, u_inc (by omega)]
        refine b5 _ _ (AXf_t w (AXf_A _ (by decide) _ _)) ?_ ?_ ?_ ?_
        · exact z1
        · exact z3
        · show uN (L2.1 2 + 1) ≤ 2048; omega
        · show ∀ j, j < uN (L2.1 2 + 1) → Gv g ((uA σ' 16 (L2.1 2).toNatClampNeg (L2.1 4)).2.2.1 16 j)
          rw [e5, z2, u_cl (by omega)]
          exact r16_p hr z4
      refine Tm_suc (fun k => by rw [y_X0_domain]) ?_
      refine Tm_ite (fun _ => ?_) (fun c0 => ?_)
      · refine b4 _ ?_ ?_ ?_ ?_
        · exact a1
        · rfl
        · rfl
        · exact gm
      · have c0' : ¬ L'.1 2 = 0 := c0
        rw [u_eq] at c0'
        have c1 : 1 ≤ uN (L'.1 2) := Nat.pos_of_ne_zero c0'
        have e1 : uN (L'.1 2 - 1) = uN (L'.1 2) - 1 := by rw [u_sub (by show 1 ≤ _; omega)]; rfl
        refine Tm_chk (u_in (by show uN (L'.1 2 - 1) < 2048; omega) (by decide)) ?_
        refine Tm_oc (c_same h' ?_ gm) (fun r q => ?_)
        · show Gv g (σ'.2.2.1 16 (L'.1 2 - 1).toNatClampNeg)
          rw [u_cl (by omega), e1]
          exact hr _ (by omega)
        · have e : r.2 = σ' := q.1
          rw [e]
          refine Tm_ite (fun _ => ?_) (fun _ => ?_)
          · refine b4 _ ?_ ?_ ?_ ?_
            · exact a1
            · rfl
            · rfl
            · exact gm
          · exact b5 _ _ w a1 rfl a2 hr
  refine Tm_suc (fun k => by rw [y_X0_domain]) ?_
  refine b1 (lnC (σ.2.2.1 3) (L.1 1)) _ _ (AXf_r σ) ?_ ?_ ?_ ?_
  · rfl
  · show 0 + _ = _; omega
  · show uN 0 ≤ 2048; decide
  · intro j hj; exact absurd hj (Nat.not_lt_zero j)
theorem c_taken (h : HQ g l t σ) (hx : Gv g (L.1 1)) (hk : (kdC (σ.2.2.1 3) (L.1 1) = 4 ∧ uN (L.1 2) < lnC (σ.2.2.1 3) (L.1 1)) ∨ 5 ≤ kdC (σ.2.2.1 3) (L.1 1)) : Tm (fun k => y_X1_taken k 0 L σ) (fun r => r.2 = σ ∧ Gv g r.1) := by
  have b2 : ∀ L' : LV, Gv g (L'.1 100) → Tm (fun k => y_X1_taken k 2 L' σ) (fun r => r.2 = σ ∧ Gv g r.1) := by
    intro L' d
    refine Tm_suc (fun k => by rw [y_X1_taken]) ?_
    exact Tm_some ⟨rfl, d⟩
  refine Tm_suc (fun k => by rw [y_X1_taken]) ?_
  refine Tm_ocE (c_kind h hx) ?_
  refine Tm_ite (fun c => ?_) (fun c => ?_)
  · have k4 : kdC (σ.2.2.1 3) (L.1 1) = 4 := kd_n (n := 4) (by decide) c
    have i4 : uN (L.1 2) < lnC (σ.2.2.1 3) (L.1 1) := by
      rcases hk with z | z
      · exact z.2
      · omega
    refine Tm_oc (c_byteAt h hx (fun _ => ⟨k4, i4⟩)) (fun r q => ?_)
    have e : r.2 = σ := q.1
    rw [e]
    refine b2 _ (Or.inl ?_)
    show 2147483648 ≤ uN (-1073741824 ||| r.1) ∧ (uN (-1073741824 ||| r.1) < 3489660928 ∨ (4026531840 ≤ uN (-1073741824 ||| r.1) ∧ ¬ uN (-1073741824 ||| r.1) % 16 = 0))
    rw [u_orB (k := 8) (a := 12582912) q.2 (by decide)]
    have e0 : uN (-1073741824) = 3221225472 := rfl
    have := q.2
    omega
  · have k5 : 5 ≤ kdC (σ.2.2.1 3) (L.1 1) := by
      rcases hk with z | z
      · exact absurd (by show nI (kdC (σ.2.2.1 3) (L.1 1)) = 4; rw [z.1]; rfl) c
      · exact z
    refine Tm_suc (fun k => by rw [y_X1_taken]) ?_
    refine Tm_ocE (c_member h hx (fun _ => k5)) ?_
    exact b2 _ (mbC_g h hx (fun _ => k5))
theorem c_memberAt (h : HQ g l t σ) (hx : Gv g (L.1 1)) (hy : Gv g (L.1 2)) : Tm (fun k => y_X0_memberAt k 0 L σ) (Qv g σ) := by
  have ll := lnC_lt (σ.2.2.1 3) (L.1 1)
  have b7 : ∀ L' : LV, Gv g (L'.1 100) → Tm (fun k => y_X0_memberAt k 7 L' σ) (Qv g σ) := by
    intro L' d
    refine Tm_suc (fun k => by rw [y_X0_memberAt]) ?_
    exact Tm_some ⟨rfl, Or.inl d⟩
  have b9 : ∀ L' : LV, Gv g (L'.1 100) → Tm (fun k => y_X0_memberAt k 9 L' σ) (Qv g σ) := by
    intro L' d
    refine Tm_suc (fun k => by rw [y_X0_memberAt]) ?_
    exact Tm_some ⟨rfl, Or.inl d⟩
  have b1 : (kdC (σ.2.2.1 3) (L.1 1) = 4 ∨ kdC (σ.2.2.1 3) (L.1 1) = 5) → Tm (fun k => y_X0_memberAt k 1 L σ) (Qv g σ) := by
    intro k45
    refine Tm_suc (fun k => by rw [y_X0_memberAt]) ?_
    refine Tm_ocE (c_kind h hy) ?_
    refine Tm_ite (fun _ => ?_) (fun _ => Tm_some ⟨rfl, Or.inr eKind⟩)
    refine Tm_suc (fun k => by rw [y_X0_memberAt]) ?_
    refine Tm_ocE (c_clampedE h hy) ?_
    refine Tm_ite (fun c => ?_) (fun _ => Tm_some ⟨rfl, Or.inr ePlace⟩)
    have c1 : 1 ≤ uN (clC (σ.2.2.1 3) (L.1 2)) ∧ uN (clC (σ.2.2.1 3) (L.1 2)) < 2147483648 := by
      have c' : (1 : Int32) ≤ clC (σ.2.2.1 3) (L.1 2) := c
      rw [i_le, u_int (clC (σ.2.2.1 3) (L.1 2))] at c'
      have c2 : 1 ≤ (if uN (clC (σ.2.2.1 3) (L.1 2)) < 2147483648 then (uN (clC (σ.2.2.1 3) (L.1 2)) : Int) else (uN (clC (σ.2.2.1 3) (L.1 2)) : Int) - 4294967296) := c'
      have := u_lt (clC (σ.2.2.1 3) (L.1 2))
      split at c2 <;> omega
    refine Tm_suc (fun k => by rw [y_X0_memberAt]) ?_
    refine Tm_ocE (c_length h hx) ?_
    refine Tm_ite (fun _ => ?_) (fun d => ?_)
    · refine Tm_suc (fun k => by rw [y_X0_memberAt]) ?_
      exact b9 _ (Gv_om g)
    · have d' : ¬ nI (lnC (σ.2.2.1 3) (L.1 1)) < clC (σ.2.2.1 3) (L.1 2) := d
      rw [u_ltn (by rw [u_n (by omega)]; omega) c1.2, u_n (by omega)] at d'
      have e1 : uN (clC (σ.2.2.1 3) (L.1 2) - 1) = uN (clC (σ.2.2.1 3) (L.1 2)) - 1 := by
        rw [u_sub (by show 1 ≤ _; omega)]; rfl
      refine Tm_oc (c_taken h hx ?_) (fun r q => ?_)
      · rcases k45 with z | z
        · left
          refine ⟨z, ?_⟩
          show uN (clC (σ.2.2.1 3) (L.1 2) - 1) < lnC (σ.2.2.1 3) (L.1 1)
          omega
        · right
          show 5 ≤ kdC (σ.2.2.1 3) (L.1 1)
          omega
      · have e : r.2 = σ := q.1
        rw [e]
        exact b9 _ q.2
  refine Tm_suc (fun k => by rw [y_X0_memberAt]) ?_
  refine Tm_ocE (c_kind h hx) ?_
  refine Tm_ite (fun c => b1 (Or.inl (kd_n (n := 4) (by decide) c))) (fun _ => Tm_ite (fun c => b1 (Or.inr (kd_n (n := 5) (by decide) c))) (fun _ => ?_))
  refine Tm_suc (fun k => by rw [y_X0_memberAt]) ?_
  refine Tm_oc (c_isMap h hx) (fun r q => ?_)
  have e : r.2 = σ := q.1.1
  rw [e]
  refine Tm_ite (fun _ => Tm_some ⟨rfl, Or.inr eKind⟩) (fun c => ?_)
  have mp : MpV g σ (L.1 1) := ⟨hx, q.2 c⟩
  have sx := MpV_s mp
  refine Tm_suc (fun k => by rw [y_X0_memberAt]) ?_
  refine Tm_oc (c_pairsFrom h mp hy) (fun r1 q1 => ?_)
  have e1 : r1.2 = σ := q1.1
  rw [e1]
  refine Tm_oc (c_pairsTo h mp hy q1.2) (fun r2 q2 => ?_)
  have e2 : r2.2 = σ := q2.1
  rw [e2]
  refine Tm_ite (fun _ => ?_) (fun _ => ?_)
  · refine Tm_ocE (c_member h sx.1 sx.2) ?_
    have sp := mp_sq h mp r1.1
    refine Tm_ocE (c_member h sp.1 sp.2) ?_
    exact b7 _ (mbC_g h sp.1 sp.2)
  · refine Tm_suc (fun k => by rw [y_X0_memberAt]) ?_
    exact b7 _ (Gv_om g)
theorem c_rowError (h : HQ g l t σ) (hf : Gv g (L.1 1)) (hi : Gv g (L.1 2)) (hj : Gv g (L.1 3)) : Tm (fun k => y_X0_rowError k 0 L σ) (fun r => r.2 = σ ∧ (r.1 = 0 ∨ Rw r.1) ∧ (r.1 = 0 → (kdC (σ.2.2.1 3) (L.1 1) = 4 ∨ kdC (σ.2.2.1 3) (L.1 1) = 5) ∧ 1 ≤ uN (clC (σ.2.2.1 3) (L.1 2)) ∧ uN (clC (σ.2.2.1 3) (L.1 2)) ≤ uN (clC (σ.2.2.1 3) (L.1 3)) + 1 ∧ uN (clC (σ.2.2.1 3) (L.1 3)) ≤ lnC (σ.2.2.1 3) (L.1 1))) := by
  have ll := lnC_lt (σ.2.2.1 3) (L.1 1)
  have raw : ∀ z : Int32, Rw z → ¬ z = 0 := fun z hz e => by
    rw [e] at hz
    exact absurd hz.1 (by show ¬ 4026531840 ≤ uN 0; decide)
  have b2 : ∀ L' : LV, Tm (fun k => y_X0_rowError k 2 L' σ) (fun r => r.2 = σ ∧ (r.1 = 0 ∨ Rw r.1) ∧ (r.1 = 0 → (kdC (σ.2.2.1 3) (L.1 1) = 4 ∨ kdC (σ.2.2.1 3) (L.1 1) = 5) ∧ 1 ≤ uN (clC (σ.2.2.1 3) (L.1 2)) ∧ uN (clC (σ.2.2.1 3) (L.1 2)) ≤ uN (clC (σ.2.2.1 3) (L.1 3)) + 1 ∧ uN (clC (σ.2.2.1 3) (L.1 3)) ≤ lnC (σ.2.2.1 3) (L.1 1))) := by
    intro L'
    refine Tm_suc (fun k => by rw [y_X0_rowError]) ?_
    exact Tm_some ⟨rfl, Or.inr eKind, fun z => absurd z (raw _ eKind)⟩
  have b4 : ∀ L' : LV, Tm (fun k => y_X0_rowError k 4 L' σ) (fun r => r.2 = σ ∧ (r.1 = 0 ∨ Rw r.1) ∧ (r.1 = 0 → (kdC (σ.2.2.1 3) (L.1 1) = 4 ∨ kdC (σ.2.2.1 3) (L.1 1) = 5) ∧ 1 ≤ uN (clC (σ.2.2.1 3) (L.1 2)) ∧ uN (clC (σ.2.2.1 3) (L.1 2)) ≤ uN (clC (σ.2.2.1 3) (L.1 3)) + 1 ∧ uN (clC (σ.2.2.1 3) (L.1 3)) ≤ lnC (σ.2.2.1 3) (L.1 1))) := by
    intro L'
    refine Tm_suc (fun k => by rw [y_X0_rowError]) ?_
    refine Tm_suc (fun k => by rw [y_X0_rowError]) ?_
    exact Tm_some ⟨rfl, Or.inr ePlace, fun z => absurd z (raw _ ePlace)⟩
  have b1 : (kdC (σ.2.2.1 3) (L.1 1) = 4 ∨ kdC (σ.2.2.1 3) (L.1 1) = 5) → Tm (fun k => y_X0_rowError k 1 L σ) (fun r => r.2 = σ ∧ (r.1 = 0 ∨ Rw r.1) ∧ (r.1 = 0 → (kdC (σ.2.2.1 3) (L.1 1) = 4 ∨ kdC (σ.2.2.1 3) (L.1 1) = 5) ∧ 1 ≤ uN (clC (σ.2.2.1 3) (L.1 2)) ∧ uN (clC (σ.2.2.1 3) (L.1 2)) ≤ uN (clC (σ.2.2.1 3) (L.1 3)) + 1 ∧ uN (clC (σ.2.2.1 3) (L.1 3)) ≤ lnC (σ.2.2.1 3) (L.1 1))) := by
    intro k45
    refine Tm_suc (fun k => by rw [y_X0_rowError]) ?_
    refine Tm_ocE (c_kind h hi) ?_
    refine Tm_ite (fun _ => ?_) (fun _ => b2 _)
    refine Tm_ocE (c_kind h hj) ?_
    refine Tm_ite (fun _ => ?_) (fun _ => b2 _)
    refine Tm_suc (fun k => by rw [y_X0_rowError]) ?_
    refine Tm_ocE (c_clampedE h hi) ?_
    refine Tm_ocE (c_clampedE h hj) ?_
    generalize hc : clC (σ.2.2.1 3) (L.1 2) = c at *
    generalize hd : clC (σ.2.2.1 3) (L.1 3) = d at *
    refine Tm_ite (fun _ => b4 _) (fun c1 => Tm_ite (fun _ => b4 _) (fun c2 => ?_))
    refine Tm_ocE (c_length h hf) ?_
    refine Tm_ite (fun _ => b4 _) (fun c3 => ?_)
    have c1' : ¬ c < 1 := by rw [← hc]; exact c1
    have c2' : ¬ d < c - 1 := by rw [← hc, ← hd]; exact c2
    have c3' : ¬ nI (lnC (σ.2.2.1 3) (L.1 1)) < d := by rw [← hd]; exact c3
    have uc := u_lt c
    have ud := u_lt d
    have p1 : 1 ≤ uN c ∧ uN c < 2147483648 := by
      rw [i_lt, u_int c] at c1'
      have z : ¬ (if uN c < 2147483648 then (uN c : Int) else (uN c : Int) - 4294967296) < 1 := c1'
      split at z <;> omega
    have e1 : uN (c - 1) = uN c - 1 := by rw [u_sub (by show 1 ≤ _; omega)]; rfl
    have p2 : uN d < 2147483648 := by
      rcases Nat.lt_or_ge (uN d) 2147483648 with z | z
      · exact z
      · exfalso
        rw [i_lt, u_int, u_int, if_neg (by omega), if_pos (by omega)] at c2'
        omega
    rw [u_ltn p2 (by omega), e1] at c2'
    rw [u_ltn (by rw [u_n (by omega)]; omega) p2, u_n (by omega)] at c3'
    refine Tm_suc (fun k => by rw [y_X0_rowError]) ?_
    exact Tm_some ⟨rfl, Or.inl rfl, fun _ => ⟨k45, p1.1, by omega, by omega⟩⟩
  refine Tm_suc (fun k => by rw [y_X0_rowError]) ?_
  refine Tm_ocE (c_kind h hf) ?_
  exact Tm_ite (fun c => b1 (Or.inl (kd_n (n := 4) (by decide) c))) (fun _ => Tm_ite (fun c => b1 (Or.inr (kd_n (n := 5) (by decide) c))) (fun _ => b2 _))
end CRY
end JnS361
section JnS362
/-! The class: a value put among others in order (two rows: S362.tpl). -/
section CRZ
variable {g g' g2 : Nat → Prop} {l l' l2 : List Nat} {t t' t2 : Nat} {σ σ' σ2 : CS} {L : LV} {x y i : Int32} {M M' : Nat → Int32}
/-- what insert leaves: nothing, or one value more from s on, what stood behind moved up to e -/
def InO16 (g : Nat → Prop) (σ : CS) (s n e : Nat) (r : Int32 × CS) : Prop := (r.1 = 0 ∧ r.2 = σ) ∨ (r.1 = 1 ∧ ∃ f, r.2 = uF σ 16 f ∧ (∀ j, j < s → f j = σ.2.2.1 16 j) ∧ (∀ j, s ≤ j → j < s + n + 1 → Gv g (f j)) ∧ (∀ j, s + n ≤ j → j < e → f (j + 1) = σ.2.2.1 16 j) ∧ (∀ j, e < j → f j = σ.2.2.1 16 j))
theorem c_insert16 (h : HQ g l t σ) (hN : 2048 ≤ 1000000000) {s n e : Nat} (h2 : uN (L.1 2) = s) (h3 : uN (L.1 3) = n) (h4 : uN (L.1 4) = e) (he : s + n ≤ e) (he2 : e + 1 ≤ 2048) (hv : ∀ j, s ≤ j → j < s + n → Gv g (σ.2.2.1 16 j)) (hx : Gv g (L.1 5)) : Tm (fun k => y_X0_insert__a16 k 0 L σ) (InO16 g σ s n e) := by
  have e23 : uN (L.1 2 + L.1 3) = s + n := by rw [u_add (by omega), h2, h3]
  have b6 : ∀ L' : LV, L'.1 4 = L.1 4 → L'.1 5 = L.1 5 → s ≤ uN (L'.1 6) → uN (L'.1 6) ≤ s + n → Tm (fun k => y_X0_insert__a16 k 6 L' σ) (InO16 g σ s n e) := by
    intro L' a4 a5 p1 p2
    have e1 : uN (L'.1 6 + 1) = uN (L'.1 6) + 1 := u_inc (by omega)
    have e2 : uN (L'.1 4 - L'.1 6) = e - uN (L'.1 6) := by rw [a4, u_sub (by omega), h4]
    refine Tm_suc (fun k => by rw [y_X0_insert__a16]) ?_
    refine Tm_chk ⟨by rw [u_neg]; omega, by rw [u_neg]; omega, by rw [u_neg]; omega, by rw [u_cl (by omega), u_cl (by omega), e2]; omega, by rw [u_cl (by omega), u_cl (by omega), e1, e2]; omega⟩ ?_
    refine Tm_chk (u_in (by show uN (L'.1 6) < 2048; omega) (by show 2048 ≤ 2147483648; omega)) ?_
    rw [uF_a]
    refine Tm_some (Or.inr ⟨rfl, _, rfl, ?_⟩)
    rw [u_cl (x := L'.1 6) (by omega), u_cl (x := L'.1 6 + 1) (by omega), u_cl (x := L'.1 4 - L'.1 6) (by omega), e1, e2, a5]
    refine ⟨fun j hj => ?_, fun j hj1 hj2 => ?_, fun j hj1 hj2 => ?_, fun j hj => ?_⟩
    · rw [upd_other (by omega)]
      unfold va_cpy
      rw [if_neg (by omega)]
    · by_cases c : j = uN (L'.1 6)
      · rw [c, upd_same]; exact hx
      · rw [upd_other c]
        unfold va_cpy
        by_cases d : uN (L'.1 6) + 1 ≤ j ∧ j < uN (L'.1 6) + 1 + (e - uN (L'.1 6))
        · rw [if_pos d]
          exact hv _ (by omega) (by omega)
        · rw [if_neg d]
          exact hv _ hj1 (by omega)
    · rw [upd_other (by omega)]
      unfold va_cpy
      rw [if_pos ⟨by omega, by omega⟩]
      show σ.2.2.1 16 (uN (L'.1 6) + (j + 1 - (uN (L'.1 6) + 1))) = σ.2.2.1 16 j
      rw [show uN (L'.1 6) + (j + 1 - (uN (L'.1 6) + 1)) = j from by omega]
    · rw [upd_other (by omega)]
      unfold va_cpy
      rw [if_neg (by omega)]
  have b3 : ∀ L' : LV, L'.1 2 = L.1 2 → L'.1 3 = L.1 3 → L'.1 4 = L.1 4 → L'.1 5 = L.1 5 → s ≤ uN (L'.1 6) → uN (L'.1 6) ≤ s + n → Tm (fun k => y_X0_insert__a16 k 3 L' σ) (InO16 g σ s n e) := by
    intro L' a2 a3 a4 a5 p1 p2
    refine Tm_suc (fun k => by rw [y_X0_insert__a16]) ?_
    rw [a2, a3]
    refine Tm_ite (fun _ => b6 _ a4 a5 p1 p2) (fun c => ?_)
    rw [u_le (by omega) (by omega), e23] at c
    refine Tm_chk (u_in (by omega) (by omega)) ?_
    refine Tm_oc (c_same h ?_ ?_) (fun r q => ?_)
    · show Gv g (σ.2.2.1 16 (L'.1 6).toNatClampNeg)
      rw [u_cl (by omega)]
      exact hv _ p1 (by omega)
    · show Gv g (L'.1 5); rw [a5]; exact hx
    · have e : r.2 = σ := q.1
      rw [e]
      exact Tm_ite (fun _ => b6 _ a4 a5 p1 p2) (fun _ => Tm_some (Or.inl ⟨rfl, rfl⟩))
  have b2 : ∀ (m : Nat) (L' : LV), uN (L'.1 8) + m = 32 → L'.1 2 = L.1 2 → L'.1 3 = L.1 3 → L'.1 4 = L.1 4 → L'.1 5 = L.1 5 → s ≤ uN (L'.1 6) → uN (L'.1 6) ≤ s + n → uN (L'.1 7) ≤ s + n → Tm (fun k => y_X0_insert__a16 k 2 L' σ) (InO16 g σ s n e) := by
    intro m
    induction m with
    | zero =>
      intro L' a8 a2 a3 a4 a5 p1 p2 p3
      refine Tm_suc (fun k => by rw [y_X0_insert__a16]) ?_
      exact Tm_yes (by rw [u_le (by decide) (by omega)]; show 32 ≤ _; omega) (b3 _ a2 a3 a4 a5 p1 p2)
    | succ m ih =>
      intro L' a8 a2 a3 a4 a5 p1 p2 p3
      have b5 : ∀ L2 : LV, L2.1 8 = L'.1 8 → L2.1 2 = L.1 2 → L2.1 3 = L.1 3 → L2.1 4 = L.1 4 → L2.1 5 = L.1 5 → s ≤ uN (L2.1 6) → uN (L2.1 6) ≤ s + n → uN (L2.1 7) ≤ s + n → Tm (fun k => y_X0_insert__a16 k 5 L2 σ) (InO16 g σ s n e) := by
        intro L2 z8 z2 z3 z4 z5 q1 q2 q3
        refine Tm_suc (fun k => by rw [y_X0_insert__a16]) ?_
        refine ih _ ?_ ?_ ?_ ?_ ?_ ?_ ?_ ?_
        · show uN (L2.1 8 + 1) + m = 32
          rw [z8, u_inc (by omega)]; omega
        · exact z2
        · exact z3
        · exact z4
        · exact z5
        · exact q1
        · exact q2
        · exact q3
      have eh : uN ((((L'.1 6) + (L'.1 7)).toUInt32 >>> ((1 : Int32).toUInt32 &&& Int32.toUInt32 31)).toInt32) = (uN (L'.1 6) + uN (L'.1 7)) / 2 := by
        rw [u_shr1, u_add (by omega)]
      refine Tm_suc (fun k => by rw [y_X0_insert__a16]) ?_
      refine Tm_ite (fun _ => b3 _ a2 a3 a4 a5 p1 p2) (fun _ => Tm_ite (fun _ => b3 _ a2 a3 a4 a5 p1 p2) (fun c => ?_))
      rw [u_le (by omega) (by omega)] at c
      refine Tm_chk (u_in (by omega) (by omega)) ?_
      refine Tm_oc (c_compare h ?_ ?_) (fun r q => ?_)
      · show Gv g (σ.2.2.1 16 (((((L'.1 6) + (L'.1 7)).toUInt32 >>> ((1 : Int32).toUInt32 &&& Int32.toUInt32 31)).toInt32)).toNatClampNeg)
        rw [u_cl (by omega), eh]
        exact hv _ (by omega) (by omega)
      · show Gv g (L'.1 5); rw [a5]; exact hx
      · have e : r.2 = σ := q
        rw [e]
        refine Tm_ite (fun _ => ?_) (fun _ => ?_)
        · refine Tm_suc (fun k => by rw [y_X0_insert__a16]) ?_
          refine b5 _ ?_ ?_ ?_ ?_ ?_ ?_ ?_ ?_
          · rfl
          · exact a2
          · exact a3
          · exact a4
          · exact a5
          · exact p1
          · exact p2
          · show uN ((((L'.1 6) + (L'.1 7)).toUInt32 >>> ((1 : Int32).toUInt32 &&& Int32.toUInt32 31)).toInt32) ≤ _
            omega
        · refine b5 _ ?_ ?_ ?_ ?_ ?_ ?_ ?_ ?_
          · rfl
          · exact a2
          · exact a3
          · exact a4
          · exact a5
          · show s ≤ uN ((((L'.1 6) + (L'.1 7)).toUInt32 >>> ((1 : Int32).toUInt32 &&& Int32.toUInt32 31)).toInt32 + 1)
            rw [u_inc (by omega)]; omega
          · show uN ((((L'.1 6) + (L'.1 7)).toUInt32 >>> ((1 : Int32).toUInt32 &&& Int32.toUInt32 31)).toInt32 + 1) ≤ _
            rw [u_inc (by omega)]; omega
          · exact p3
  have b1 : ∀ L' : LV, L'.1 2 = L.1 2 → L'.1 3 = L.1 3 → L'.1 4 = L.1 4 → L'.1 5 = L.1 5 → s ≤ uN (L'.1 6) → uN (L'.1 6) ≤ s + n → uN (L'.1 7) ≤ s + n → Tm (fun k => y_X0_insert__a16 k 1 L' σ) (InO16 g σ s n e) := by
    intro L' a2 a3 a4 a5 p1 p2 p3
    refine Tm_suc (fun k => by rw [y_X0_insert__a16]) ?_
    refine b2 32 _ ?_ ?_ ?_ ?_ ?_ ?_ ?_ ?_
    · rfl
    · exact a2
    · exact a3
    · exact a4
    · exact a5
    · exact p1
    · exact p2
    · exact p3
  have low : Tm (fun k => y_X0_insert__a16 k 1 (lI (lI L 6 (L.1 2)) 7 (L.1 2 + L.1 3)) σ) (InO16 g σ s n e) := by
    refine b1 _ rfl rfl rfl rfl ?_ ?_ ?_
    · show s ≤ uN (L.1 2); omega
    · show uN (L.1 2) ≤ _; omega
    · show uN (L.1 2 + L.1 3) ≤ _; omega
  refine Tm_suc (fun k => by rw [y_X0_insert__a16]) ?_
  refine Tm_ite (fun _ => low) (fun c => ?_)
  rw [u_le (by omega) (by decide)] at c
  have c1 : 1 ≤ uN (L.1 3) := Nat.lt_of_not_le c
  have e1 : uN (L.1 2 + L.1 3 - 1) = s + n - 1 := by
    rw [u_sub (by rw [e23]; show 1 ≤ _; omega), e23]; rfl
  refine Tm_chk (u_in (by omega) (by omega)) ?_
  refine Tm_oc (c_compare h ?_ hx) (fun r q => ?_)
  · show Gv g (σ.2.2.1 16 (L.1 2 + L.1 3 - 1).toNatClampNeg)
    rw [u_cl (by omega), e1]
    exact hv _ (by omega) (by omega)
  · have e : r.2 = σ := q
    rw [e]
    refine Tm_ite (fun _ => low) (fun _ => ?_)
    refine b1 _ rfl rfl rfl rfl ?_ ?_ ?_
    · show s ≤ uN (L.1 2 + L.1 3); omega
    · show uN (L.1 2 + L.1 3) ≤ _; omega
    · show uN (L.1 2 + L.1 3) ≤ _; omega
/-- what insert leaves: nothing, or one value more from s on, what stood behind moved up to e -/
def InO20 (g : Nat → Prop) (σ : CS) (s n e : Nat) (r : Int32 × CS) : Prop := (r.1 = 0 ∧ r.2 = σ) ∨ (r.1 = 1 ∧ ∃ f, r.2 = uF σ 20 f ∧ (∀ j, j < s → f j = σ.2.2.1 20 j) ∧ (∀ j, s ≤ j → j < s + n + 1 → Gv g (f j)) ∧ (∀ j, s + n ≤ j → j < e → f (j + 1) = σ.2.2.1 20 j) ∧ (∀ j, e < j → f j = σ.2.2.1 20 j))
theorem c_insert20 (h : HQ g l t σ) (hN : sN σ 20 ≤ 1000000000) {s n e : Nat} (h2 : uN (L.1 2) = s) (h3 : uN (L.1 3) = n) (h4 : uN (L.1 4) = e) (he : s + n ≤ e) (he2 : e + 1 ≤ sN σ 20) (hv : ∀ j, s ≤ j → j < s + n → Gv g (σ.2.2.1 20 j)) (hx : Gv g (L.1 5)) : Tm (fun k => y_X0_insert__z20 k 0 L σ) (InO20 g σ s n e) := by
  have e23 : uN (L.1 2 + L.1 3) = s + n := by rw [u_add (by omega), h2, h3]
  have b6 : ∀ L' : LV, L'.1 4 = L.1 4 → L'.1 5 = L.1 5 → s ≤ uN (L'.1 6) → uN (L'.1 6) ≤ s + n → Tm (fun k => y_X0_insert__z20 k 6 L' σ) (InO20 g σ s n e) := by
    intro L' a4 a5 p1 p2
    have e1 : uN (L'.1 6 + 1) = uN (L'.1 6) + 1 := u_inc (by omega)
    have e2 : uN (L'.1 4 - L'.1 6) = e - uN (L'.1 6) := by rw [a4, u_sub (by omega), h4]
    refine Tm_suc (fun k => by rw [y_X0_insert__z20]) ?_
    refine Tm_chk ⟨by rw [u_neg]; omega, by rw [u_neg]; omega, by rw [u_neg]; omega, by rw [u_cl (by omega), u_cl (by omega), e2]; omega, by rw [u_cl (by omega), u_cl (by omega), e1, e2]; omega⟩ ?_
    refine Tm_chk (u_in (by show uN (L'.1 6) < sN σ 20; omega) (by show sN σ 20 ≤ 2147483648; omega)) ?_
    rw [uF_a]
    refine Tm_some (Or.inr ⟨rfl, _, rfl, ?_⟩)
    rw [u_cl (x := L'.1 6) (by omega), u_cl (x := L'.1 6 + 1) (by omega), u_cl (x := L'.1 4 - L'.1 6) (by omega), e1, e2, a5]
    refine ⟨fun j hj => ?_, fun j hj1 hj2 => ?_, fun j hj1 hj2 => ?_, fun j hj => ?_⟩
    · rw [upd_other (by omega)]
      unfold va_cpy
      rw [if_neg (by omega)]
    · by_cases c : j = uN (L'.1 6)
      · rw [c, upd_same]; exact hx
      · rw [upd_other c]
        unfold va_cpy
        by_cases d : uN (L'.1 6) + 1 ≤ j ∧ j < uN (L'.1 6) + 1 + (e - uN (L'.1 6))
        · rw [if_pos d]
          exact hv _ (by omega) (by omega)
        · rw [if_neg d]
          exact hv _ hj1 (by omega)
    · rw [upd_other (by omega)]
      unfold va_cpy
      rw [if_pos ⟨by omega, by omega⟩]
      show σ.2.2.1 20 (uN (L'.1 6) + (j + 1 - (uN (L'.1 6) + 1))) = σ.2.2.1 20 j
      rw [show uN (L'.1 6) + (j + 1 - (uN (L'.1 6) + 1)) = j from by omega]
    · rw [upd_other (by omega)]
      unfold va_cpy
      rw [if_neg (by omega)]
  have b3 : ∀ L' : LV, L'.1 2 = L.1 2 → L'.1 3 = L.1 3 → L'.1 4 = L.1 4 → L'.1 5 = L.1 5 → s ≤ uN (L'.1 6) → uN (L'.1 6) ≤ s + n → Tm (fun k => y_X0_insert__z20 k 3 L' σ) (InO20 g σ s n e) := by
    intro L' a2 a3 a4 a5 p1 p2
    refine Tm_suc (fun k => by rw [y_X0_insert__z20]) ?_
    rw [a2, a3]
    refine Tm_ite (fun _ => b6 _ a4 a5 p1 p2) (fun c => ?_)
    rw [u_le (by omega) (by omega), e23] at c
    refine Tm_chk (u_in (by omega) (by omega)) ?_
    refine Tm_oc (c_same h ?_ ?_) (fun r q => ?_)
    · show Gv g (σ.2.2.1 20 (L'.1 6).toNatClampNeg)
      rw [u_cl (by omega)]
      exact hv _ p1 (by omega)
    · show Gv g (L'.1 5); rw [a5]; exact hx
    · have e : r.2 = σ := q.1
      rw [e]
      exact Tm_ite (fun _ => b6 _ a4 a5 p1 p2) (fun _ => Tm_some (Or.inl ⟨rfl, rfl⟩))
  have b2 : ∀ (m : Nat) (L' : LV), uN (L'.1 8) + m = 32 → L'.1 2 = L.1 2 → L'.1 3 = L.1 3 → L'.1 4 = L.1 4 → L'.1 5 = L.1 5 → s ≤ uN (L'.1 6) → uN (L'.1 6) ≤ s + n → uN (L'.1 7) ≤ s + n → Tm (fun k => y_X0_insert__z20 k 2 L' σ) (InO20 g σ s n e) := by
    intro m
    induction m with
    | zero =>
      intro L' a8 a2 a3 a4 a5 p1 p2 p3
      refine Tm_suc (fun k => by rw [y_X0_insert__z20]) ?_
      exact Tm_yes (by rw [u_le (by decide) (by omega)]; show 32 ≤ _; omega) (b3 _ a2 a3 a4 a5 p1 p2)
    | succ m ih =>
      intro L' a8 a2 a3 a4 a5 p1 p2 p3
      have b5 : ∀ L2 : LV, L2.1 8 = L'.1 8 → L2.1 2 = L.1 2 → L2.1 3 = L.1 3 → L2.1 4 = L.1 4 → L2.1 5 = L.1 5 → s ≤ uN (L2.1 6) → uN (L2.1 6) ≤ s + n → uN (L2.1 7) ≤ s + n → Tm (fun k => y_X0_insert__z20 k 5 L2 σ) (InO20 g σ s n e) := by
        intro L2 z8 z2 z3 z4 z5 q1 q2 q3
        refine Tm_suc (fun k => by rw [y_X0_insert__z20]) ?_
        refine ih _ ?_ ?_ ?_ ?_ ?_ ?_ ?_ ?_
        · show uN (L2.1 8 + 1) + m = 32
          rw [z8, u_inc (by omega)]; omega
        · exact z2
        · exact z3
        · exact z4
        · exact z5
        · exact q1
        · exact q2
        · exact q3
      have eh : uN ((((L'.1 6) + (L'.1 7)).toUInt32 >>> ((1 : Int32).toUInt32 &&& Int32.toUInt32 31)).toInt32) = (uN (L'.1 6) + uN (L'.1 7)) / 2 := by
        rw [u_shr1, u_add (by omega)]
      refine Tm_suc (fun k => by rw [y_X0_insert__z20]) ?_
      refine Tm_ite (fun _ => b3 _ a2 a3 a4 a5 p1 p2) (fun _ => Tm_ite (fun _ => b3 _ a2 a3 a4 a5 p1 p2) (fun c => ?_))
      rw [u_le (by omega) (by omega)] at c
      refine Tm_chk (u_in (by omega) (by omega)) ?_
      refine Tm_oc (c_compare h ?_ ?_) (fun r q => ?_)
      · show Gv g (σ.2.2.1 20 (((((L'.1 6) + (L'.1 7)).toUInt32 >>> ((1 : Int32).toUInt32 &&& Int32.toUInt32 31)).toInt32)).toNatClampNeg)
        rw [u_cl (by omega), eh]
        exact hv _ (by omega) (by omega)
      · show Gv g (L'.1 5); rw [a5]; exact hx
      · have e : r.2 = σ := q
        rw [e]
        refine Tm_ite (fun _ => ?_) (fun _ => ?_)
        · refine Tm_suc (fun k => by rw [y_X0_insert__z20]) ?_
          refine b5 _ ?_ ?_ ?_ ?_ ?_ ?_ ?_ ?_
          · rfl
          · exact a2
          · exact a3
          · exact a4
          · exact a5
          · exact p1
          · exact p2
          · show uN ((((L'.1 6) + (L'.1 7)).toUInt32 >>> ((1 : Int32).toUInt32 &&& Int32.toUInt32 31)).toInt32) ≤ _
            omega
        · refine b5 _ ?_ ?_ ?_ ?_ ?_ ?_ ?_ ?_
          · rfl
          · exact a2
          · exact a3
          · exact a4
          · exact a5
          · show s ≤ uN ((((L'.1 6) + (L'.1 7)).toUInt32 >>> ((1 : Int32).toUInt32 &&& Int32.toUInt32 31)).toInt32 + 1)
            rw [u_inc (by omega)]; omega
          · show uN ((((L'.1 6) + (L'.1 7)).toUInt32 >>> ((1 : Int32).toUInt32 &&& Int32.toUInt32 31)).toInt32 + 1) ≤ _
            rw [u_inc (by omega)]; omega
          · exact p3
  have b1 : ∀ L' : LV, L'.1 2 = L.1 2 → L'.1 3 = L.1 3 → L'.1 4 = L.1 4 → L'.1 5 = L.1 5 → s ≤ uN (L'.1 6) → uN (L'.1 6) ≤ s + n → uN (L'.1 7) ≤ s + n → Tm (fun k => y_X0_insert__z20 k 1 L' σ) (InO20 g σ s n e) := by
    intro L' a2 a3 a4 a5 p1 p2 p3
    refine Tm_suc (fun k => by rw [y_X0_insert__z20]) ?_
    refine b2 32 _ ?_ ?_ ?_ ?_ ?_ ?_ ?_ ?_
    · rfl
    · exact a2
    · exact a3
    · exact a4
    · exact a5
    · exact p1
    · exact p2
    · exact p3
  have low : Tm (fun k => y_X0_insert__z20 k 1 (lI (lI L 6 (L.1 2)) 7 (L.1 2 + L.1 3)) σ) (InO20 g σ s n e) := by
    refine b1 _ rfl rfl rfl rfl ?_ ?_ ?_
    · show s ≤ uN (L.1 2); omega
    · show uN (L.1 2) ≤ _; omega
    · show uN (L.1 2 + L.1 3) ≤ _; omega
  refine Tm_suc (fun k => by rw [y_X0_insert__z20]) ?_
  refine Tm_ite (fun _ => low) (fun c => ?_)
  rw [u_le (by omega) (by decide)] at c
  have c1 : 1 ≤ uN (L.1 3) := Nat.lt_of_not_le c
  have e1 : uN (L.1 2 + L.1 3 - 1) = s + n - 1 := by
    rw [u_sub (by rw [e23]; show 1 ≤ _; omega), e23]; rfl
  refine Tm_chk (u_in (by omega) (by omega)) ?_
  refine Tm_oc (c_compare h ?_ hx) (fun r q => ?_)
  · show Gv g (σ.2.2.1 20 (L.1 2 + L.1 3 - 1).toNatClampNeg)
    rw [u_cl (by omega), e1]
    exact hv _ (by omega) (by omega)
  · have e : r.2 = σ := q
    rw [e]
    refine Tm_ite (fun _ => low) (fun _ => ?_)
    refine b1 _ rfl rfl rfl rfl ?_ ?_ ?_
    · show s ≤ uN (L.1 2 + L.1 3); omega
    · show uN (L.1 2 + L.1 3) ≤ _; omega
    · show uN (L.1 2 + L.1 3) ≤ _; omega
theorem c_range (h : HQ g l t σ) (hx : MpV g σ (L.1 1)) : Tm (fun k => y_X0_range k 0 L σ) (Va g t σ) := by
  have ll := lnC_lt (σ.2.2.1 3) (L.1 1)
  have lm : lnC (σ.2.2.1 3) (L.1 1) ≤ 999 := by
    have k6 := hx.2.2.1
    unfold kdC at k6
    rw [if_pos hx.2.1] at k6
    have q := (HQ_c h (Gv_c hx.1 hx.2.1).2).2.2.2.2.2.2.2.2.2.1 (by omega)
    unfold lnC
    rw [if_pos hx.2.1]
    exact q.1
  have b2 : ∀ (L' : LV) (σ' : CS), AXf σ σ' → uN (L'.1 2) ≤ 2048 → (∀ j, j < uN (L'.1 2) → Gv g (σ'.2.2.1 16 j)) → Tm (fun k => y_X0_range k 2 L' σ') (Va g t σ) := by
    intro L' σ' w a4 hr
    refine Tm_suc (fun k => by rw [y_X0_range]) ?_
    exact Tm_oc (mk16 (n := 0) h w (Or.inr rfl) rfl rfl a4 hr) (fun r z => Tm_some z)
  have b1 : ∀ (m : Nat) (L' : LV) (σ' : CS), AXf σ σ' → L'.1 1 = L.1 1 → uN (L'.1 3) + m = lnC (σ.2.2.1 3) (L.1 1) → uN (L'.1 2) ≤ uN (L'.1 3) → (∀ j, j < uN (L'.1 2) → Gv g (σ'.2.2.1 16 j)) → Tm (fun k => y_X0_range k 1 L' σ') (Va g t σ) := by
    intro m
    induction m with
    | zero =>
      intro L' σ' w a1 a3 a2 hr
      have r3 : σ'.2.2.1 3 = σ.2.2.1 3 := w.2.2.1 3 (by decide)
      refine Tm_suc (fun k => by rw [y_X0_range]) ?_
      refine Tm_ocE (c_length (HQ_X h w) (by show Gv g (L'.1 1); rw [a1]; exact hx.1)) ?_
      refine Tm_yes ?_ (b2 _ _ w (by omega) hr)
      show nI (lnC (σ'.2.2.1 3) (L'.1 1)) ≤ L'.1 3
      rw [r3, a1, u_le (by rw [u_n (by omega)]; omega) (by omega), u_n (by omega)]
      omega
    | succ m ih =>
      intro L' σ' w a1 a3 a2 hr
      have h' := HQ_X h w
      have hx' : MpV g σ' (L'.1 1) := MpV_X w (by rw [a1]; exact hx)
      have sx' := MpV_s hx'
      have sp := mp_sq h' hx' (L'.1 3)
      refine Tm_suc (fun k => by rw [y_X0_range]) ?_
      refine Tm_ocE (c_length h' sx'.1) ?_
      refine Tm_ite (fun _ => b2 _ _ w (by omega) hr) (fun _ => Tm_ite (fun _ => b2 _ _ w (by omega) hr) (fun c => ?_))
      refine Tm_ocE (c_member h' sx'.1 sx'.2) ?_
      refine Tm_ocE (c_member h' sp.1 sp.2) ?_
      refine Tm_oc (c_insert16 (s := 0) (n := uN (L'.1 2)) (e := uN (L'.1 2)) h' (by decide) rfl rfl rfl (by omega) (by omega) (fun j _ hj => hr j (by omega)) (mbC_g h' sp.1 sp.2)) (fun r q => ?_)
      have b3 : ∀ (L2 : LV) (σ2 : CS), AXf σ σ2 → L2.1 1 = L.1 1 → L2.1 3 = L'.1 3 → uN (L2.1 2) ≤ uN (L'.1 3) + 1 → (∀ j, j < uN (L2.1 2) → Gv g (σ2.2.2.1 16 j)) → Tm (fun k => y_X0_range k 3 L2 σ2) (Va g t σ) := by
        intro L2 σ2 w2 z1 z3 z2 zr
        have e3 : uN (L2.1 3 + 1) = uN (L'.1 3) + 1 := by rw [z3, u_inc (by omega)]
        refine Tm_suc (fun k => by rw [y_X0_range]) ?_
        refine ih _ _ w2 ?_ ?_ ?_ ?_
        · exact z1
        · show uN (L2.1 3 + 1) + m = _; omega
        · show uN (L2.1 2) ≤ uN (L2.1 3 + 1); omega
        · exact zr
      rcases q with ⟨q1, q2⟩ | ⟨q1, f, q2, q3, q4, q5, q6⟩
      · rw [q2]
        refine Tm_ite (fun _ => b3 _ _ w a1 rfl (by omega) hr) (fun z => absurd q1 z)
      · rw [q2]
        refine Tm_ite (fun z => absurd (z.symm.trans q1) (by decide)) (fun _ => ?_)
        have e2 : uN (L'.1 2 + 1) = uN (L'.1 2) + 1 := u_inc (by omega)
        refine b3 _ _ (AXf_t w (AXf_F σ' (by decide) f)) ?_ ?_ ?_ ?_
        · exact a1
        · rfl
        · show uN (L'.1 2 + 1) ≤ _; omega
        · show ∀ j, j < uN (L'.1 2 + 1) → Gv g (f j)
          rw [e2]
          intro j hj
          exact q4 j (by omega) (by omega)
  refine Tm_suc (fun k => by rw [y_X0_range]) ?_
  refine b1 (lnC (σ.2.2.1 3) (L.1 1)) _ _ (AXf_r σ) ?_ ?_ ?_ ?_
  · rfl
  · show 0 + _ = _; omega
  · exact Nat.le_refl _
  · intro j hj; exact absurd hj (Nat.not_lt_zero j)
end CRZ
end JnS362
section JnS363
/-! The class: slices, parts, rows turned round. -/
section CSA
variable {g g' g2 : Nat → Prop} {l l' l2 : List Nat} {t t' t2 : Nat} {σ σ' σ2 : CS} {L : LV} {x y i : Int32} {M M' : Nat → Int32}
/-- rows have no more than 999 members, and are cells -/
theorem row_c (h : HQ g l t σ) (hx : Gv g x) (k : 5 ≤ kdC (σ.2.2.1 3) x) (k7 : ¬ kdC (σ.2.2.1 3) x = 7) : uN x < 2147483648 ∧ lnC (σ.2.2.1 3) x ≤ 999 := by
  have cx : uN x < 2147483648 := kdC_5 hx k k7
  refine ⟨cx, ?_⟩
  unfold kdC at k
  rw [if_pos cx] at k
  have q := (HQ_c h (Gv_c hx cx).2).2.2.2.2.2.2.2.2.2.1 k
  unfold lnC
  rw [if_pos cx]
  exact q.1
theorem c_slice (h : HQ g l t σ) (hf : Gv g (L.1 1)) (hi : Gv g (L.1 2)) (hj : Gv g (L.1 3)) : Tm (fun k => y_X0_slice k 0 L σ) (Va g t σ) := by
  have ll := lnC_lt (σ.2.2.1 3) (L.1 1)
  refine Tm_suc (fun k => by rw [y_X0_slice]) ?_
  refine Tm_oc (c_rowError h hf hi hj) (fun r1 q1 => ?_)
  obtain ⟨e1, v1, p⟩ := q1
  rw [e1]
  refine Tm_ite (fun c => ?_) (fun c => Tm_some (Va_e h (AXf_r σ) (v1.resolve_left c)))
  obtain ⟨k45, pa, pb, pc⟩ := p c
  have k45' : kdC (σ.2.2.1 3) (L.1 1) = 4 ∨ kdC (σ.2.2.1 3) (L.1 1) = 5 := k45
  have pa' : 1 ≤ uN (clC (σ.2.2.1 3) (L.1 2)) := pa
  have pb' : uN (clC (σ.2.2.1 3) (L.1 2)) ≤ uN (clC (σ.2.2.1 3) (L.1 3)) + 1 := pb
  have pc' : uN (clC (σ.2.2.1 3) (L.1 3)) ≤ lnC (σ.2.2.1 3) (L.1 1) := pc
  have ea : uN (clC (σ.2.2.1 3) (L.1 2) - 1) = uN (clC (σ.2.2.1 3) (L.1 2)) - 1 := by
    rw [u_sub (by show 1 ≤ _; omega)]; rfl
  have eb : uN (clC (σ.2.2.1 3) (L.1 3) - (clC (σ.2.2.1 3) (L.1 2) - 1)) = uN (clC (σ.2.2.1 3) (L.1 3)) - (uN (clC (σ.2.2.1 3) (L.1 2)) - 1) := by
    rw [u_sub (by omega), ea]
  refine Tm_suc (fun k => by rw [y_X0_slice]) ?_
  refine Tm_ocE (c_clampedE h hi) ?_
  refine Tm_ocE (c_clampedE h hj) ?_
  refine Tm_ocE (c_kind h hf) ?_
  refine Tm_ite (fun c4 => ?_) (fun c4 => ?_)
  · have k4 : kdC (σ.2.2.1 3) (L.1 1) = 4 := kd_n (n := 4) (by decide) c4
    refine Tm_oc (cb15 h (AXf_r σ) hf k4 ?_ (by show uN 0 ≤ 8192; decide)) (fun r q => ?_)
    · show uN (clC (σ.2.2.1 3) (L.1 2) - 1) + uN (clC (σ.2.2.1 3) (L.1 3) - (clC (σ.2.2.1 3) (L.1 2) - 1)) ≤ lnC (σ.2.2.1 3) (L.1 1)
      omega
    · refine Tm_oc (mk15 h q.1 rfl (fun _ => ?_)) (fun r z => Tm_some z)
      show uN (clC (σ.2.2.1 3) (L.1 3) - (clC (σ.2.2.1 3) (L.1 2) - 1)) ≤ 8192
      omega
  · have k5 : kdC (σ.2.2.1 3) (L.1 1) = 5 := by
      rcases k45' with z | z
      · exact absurd (by show nI (kdC (σ.2.2.1 3) (L.1 1)) = 4; rw [z]; rfl) c4
      · exact z
    have rc := row_c h hf (by omega) (by omega)
    have sx : Sq5 g σ (L.1 1) := Sq5_k hf (by omega)
    have es : uN (clC (σ.2.2.1 3) (L.1 2) - 1 + (clC (σ.2.2.1 3) (L.1 3) - (clC (σ.2.2.1 3) (L.1 2) - 1))) = uN (clC (σ.2.2.1 3) (L.1 3)) := by
      rw [u_add (by omega), ea, eb]; omega
    refine Tm_suc (fun k => by rw [y_X0_slice]) ?_
    refine Tm_oc (c_load0x h sx (by show uN (clC (σ.2.2.1 3) (L.1 2) - 1) < _; omega) (by show uN (clC (σ.2.2.1 3) (L.1 2) - 1 + (clC (σ.2.2.1 3) (L.1 3) - (clC (σ.2.2.1 3) (L.1 2) - 1))) ≤ lnC (σ.2.2.1 3) (L.1 1); omega) (by show uN 0 ≤ _; decide) (fun j hj => absurd hj (Nat.not_lt_zero j))) (fun r q => ?_)
    obtain ⟨f, f1, f2, f3, f4⟩ := q
    have f5 := f4 rc.1 (by show uN (clC (σ.2.2.1 3) (L.1 2) - 1) ≤ uN (clC (σ.2.2.1 3) (L.1 2) - 1 + (clC (σ.2.2.1 3) (L.1 3) - (clC (σ.2.2.1 3) (L.1 2) - 1))); omega) (by
      show uN (clC (σ.2.2.1 3) (L.1 2) - 1 + (clC (σ.2.2.1 3) (L.1 3) - (clC (σ.2.2.1 3) (L.1 2) - 1))) - uN (clC (σ.2.2.1 3) (L.1 2) - 1) ≤ 2048 - 0
      omega)
    have f6 : uN r.1 = 0 + (uN (clC (σ.2.2.1 3) (L.1 2) - 1 + (clC (σ.2.2.1 3) (L.1 3) - (clC (σ.2.2.1 3) (L.1 2) - 1))) - uN (clC (σ.2.2.1 3) (L.1 2) - 1)) := f5
    rw [f1]
    refine Tm_oc (mt16 h (AXf_F σ (k := 16) (by decide) f) rfl ?_ ?_) (fun r z => Tm_some z)
    · show uN (clC (σ.2.2.1 3) (L.1 3) - (clC (σ.2.2.1 3) (L.1 2) - 1)) ≤ 2048
      omega
    · show ∀ j, j < uN (clC (σ.2.2.1 3) (L.1 3) - (clC (σ.2.2.1 3) (L.1 2) - 1)) → Gv g (f j)
      intro j hj
      exact f3 j (by omega)
theorem c_part (h : HQ g l t σ) (hf : Gv g (L.1 2)) (hx : Gv g (L.1 3)) (hy : Gv g (L.1 4)) : Tm (fun k => y_X0_part k 0 L σ) (Va g t σ) := by
  have b5 : ∀ (L' : LV) (σ' : CS), Va g t σ (L'.1 100, σ') → Tm (fun k => y_X0_part k 5 L' σ') (Va g t σ) := by
    intro L' σ' d
    refine Tm_suc (fun k => by rw [y_X0_part]) ?_
    exact Tm_some d
  refine Tm_suc (fun k => by rw [y_X0_part]) ?_
  refine Tm_ite (fun _ => ?_) (fun _ => Tm_ite (fun _ => ?_) (fun _ => ?_))
  · refine Tm_suc (fun k => by rw [y_X0_part]) ?_
    refine Tm_oc (c_memberAt h hf hx) (fun r q => ?_)
    have e : r.2 = σ := q.1
    rw [e]
    exact Tm_some (q.2.elim (fun z => Va_g h (AXf_r σ) z) (fun z => Va_e h (AXf_r σ) z))
  · refine Tm_suc (fun k => by rw [y_X0_part]) ?_
    exact Tm_oc (c_slice h hf hx hy) (fun r q => Tm_some q)
  · refine Tm_suc (fun k => by rw [y_X0_part]) ?_
    refine Tm_oc (c_isMap h hf) (fun r q => ?_)
    have e : r.2 = σ := q.1.1
    rw [e]
    refine Tm_ite (fun _ => ?_) (fun c => ?_)
    · refine Tm_suc (fun k => by rw [y_X0_part]) ?_
      exact b5 _ _ (Va_e h (AXf_r σ) eKind)
    · exact Tm_oc (c_images h ⟨hf, q.2 c⟩ hx) (fun r z => b5 _ _ z)
theorem c_reversed (h : HQ g l t σ) (hx : Gv g (L.1 1)) (hk : L.1 2 = nI (kdC (σ.2.2.1 3) (L.1 1))) (k45 : kdC (σ.2.2.1 3) (L.1 1) = 4 ∨ kdC (σ.2.2.1 3) (L.1 1) = 5) : Tm (fun k => y_X0_reversed k 0 L σ) (Va g t σ) := by
  have la := lnC_lt (σ.2.2.1 3) (L.1 1)
  have ea : uN (nI (lnC (σ.2.2.1 3) (L.1 1))) = lnC (σ.2.2.1 3) (L.1 1) := u_n (by omega)
  have b2 : kdC (σ.2.2.1 3) (L.1 1) = 4 → ∀ (m : Nat) (L' : LV) (σ' : CS), AXf σ σ' → L'.1 1 = L.1 1 → L'.1 3 = nI (lnC (σ.2.2.1 3) (L.1 1)) → uN (L'.1 4) + m = lnC (σ.2.2.1 3) (L.1 1) → Tm (fun k => y_X0_reversed k 2 L' σ') (Va g t σ) := by
    intro k4
    have b4 : ∀ (L' : LV) (σ' : CS), AXf σ σ' → L'.1 3 = nI (lnC (σ.2.2.1 3) (L.1 1)) → Tm (fun k => y_X0_reversed k 4 L' σ') (Va g t σ) := by
      intro L' σ' w a3
      refine Tm_suc (fun k => by rw [y_X0_reversed]) ?_
      refine Tm_oc (mk15 h w rfl (fun _ => ?_)) (fun r z => Tm_some z)
      show uN (L'.1 3) ≤ 8192
      rw [a3]; omega
    intro m
    induction m with
    | zero =>
      intro L' σ' w a1 a3 a4
      refine Tm_suc (fun k => by rw [y_X0_reversed]) ?_
      exact Tm_yes (by rw [a3, u_le (by omega) (by omega)]; omega) (b4 _ _ w a3)
    | succ m ih =>
      intro L' σ' w a1 a3 a4
      have r3 : σ'.2.2.1 3 = σ.2.2.1 3 := w.2.2.1 3 (by decide)
      have e1 : uN (L'.1 3 - 1) = lnC (σ.2.2.1 3) (L.1 1) - 1 := by
        rw [a3, u_sub (by rw [ea]; show 1 ≤ _; omega), ea]; rfl
      have e2 : uN (L'.1 3 - 1 - L'.1 4) = lnC (σ.2.2.1 3) (L.1 1) - 1 - uN (L'.1 4) := by rw [u_sub (by omega), e1]
      refine Tm_suc (fun k => by rw [y_X0_reversed]) ?_
      refine Tm_ite (fun _ => b4 _ _ w a3) (fun _ => Tm_ite (fun _ => b4 _ _ w a3) (fun _ => ?_))
      refine Tm_oc (c_byteAt (HQ_X h w) (by show Gv g (L'.1 1); rw [a1]; exact hx) (fun _ => ?_)) (fun r q => ?_)
      · show kdC (σ'.2.2.1 3) (L'.1 1) = 4 ∧ uN (L'.1 3 - 1 - L'.1 4) < lnC (σ'.2.2.1 3) (L'.1 1)
        rw [r3, a1]
        exact ⟨k4, by omega⟩
      · have e : r.2 = σ' := q.1
        rw [e]
        refine Tm_chk (u_in (by omega) (by decide)) ?_
        refine ih _ _ (AXf_t w (AXf_A _ (by decide) _ _)) ?_ ?_ ?_
        · exact a1
        · exact a3
        · show uN (L'.1 4 + 1) + m = _
          rw [u_inc (by omega)]; omega
  have b3 : kdC (σ.2.2.1 3) (L.1 1) = 5 → ∀ (m : Nat) (L' : LV) (σ' : CS), AXf σ σ' → L'.1 1 = L.1 1 → L'.1 3 = nI (lnC (σ.2.2.1 3) (L.1 1)) → uN (L'.1 4) + m = lnC (σ.2.2.1 3) (L.1 1) → (∀ j, j < uN (L'.1 4) → Gv g (σ'.2.2.1 16 j)) → Tm (fun k => y_X0_reversed k 3 L' σ') (Va g t σ) := by
    intro k5
    have rc := row_c h hx (by omega) (by omega)
    intro m
    induction m with
    | zero =>
      intro L' σ' w a1 a3 a4 hr
      refine Tm_suc (fun k => by rw [y_X0_reversed]) ?_
      refine Tm_yes (by rw [a3, u_le (by omega) (by omega)]; omega) ?_
      refine Tm_suc (fun k => by rw [y_X0_reversed]) ?_
      refine Tm_oc (mt16 h w rfl ?_ ?_) (fun r z => Tm_some z)
      · show uN (L'.1 3) ≤ 2048
        rw [a3]; omega
      · show ∀ j, j < uN (L'.1 3) → Gv g (σ'.2.2.1 16 j)
        intro j hj
        rw [a3, ea] at hj
        exact hr j (by omega)
    | succ m ih =>
      intro L' σ' w a1 a3 a4 hr
      have sx' : Sq5 g σ' (L'.1 1) := Sq5_X w (by rw [a1]; exact Sq5_k hx (by omega))
      refine Tm_suc (fun k => by rw [y_X0_reversed]) ?_
      refine Tm_ite (fun c => absurd c (by rw [a3, u_le (by omega) (by omega)]; omega)) (fun _ => ?_)
      refine Tm_ite (fun c => absurd c (by rw [u_le (by decide) (by omega)]; show ¬ 2048 ≤ _; omega)) (fun _ => ?_)
      refine Tm_ocE (c_member (HQ_X h w) sx'.1 sx'.2) ?_
      refine Tm_chk (u_in (by omega) (by decide)) ?_
      have e4 : uN (L'.1 4 + 1) = uN (L'.1 4) + 1 := u_inc (by omega)
      refine ih _ _ (AXf_t w (AXf_A _ (by decide) _ _)) ?_ ?_ ?_ ?_
      · exact a1
      · exact a3
      · show uN (L'.1 4 + 1) + m = _; omega
      · show ∀ j, j < uN (L'.1 4 + 1) → Gv g ((uA σ' 16 (L'.1 4).toNatClampNeg (mbC (σ'.2.2.1 3) (L'.1 1) (L'.1 3 - 1 - L'.1 4))).2.2.1 16 j)
        rw [e4, u_cl (by omega)]
        exact r16_p hr (mbC_g (HQ_X h w) sx'.1 sx'.2)
  refine Tm_suc (fun k => by rw [y_X0_reversed]) ?_
  refine Tm_ocE (c_length h hx) ?_
  refine Tm_ite (fun c => ?_) (fun c => ?_)
  · rw [hk] at c
    refine b2 (kd_n (n := 4) (by decide) c) (lnC (σ.2.2.1 3) (L.1 1)) _ _ (AXf_r σ) ?_ ?_ ?_
    · rfl
    · rfl
    · show 0 + _ = _; omega
  · have k5 : kdC (σ.2.2.1 3) (L.1 1) = 5 := k45.resolve_left (fun z => c (by rw [hk, z]; rfl))
    refine Tm_suc (fun k => by rw [y_X0_reversed]) ?_
    refine b3 k5 (lnC (σ.2.2.1 3) (L.1 1)) _ _ (AXf_r σ) ?_ ?_ ?_ ?_
    · rfl
    · rfl
    · show 0 + _ = _; omega
    · intro j hj; exact absurd hj (Nat.not_lt_zero j)
end CSA
end JnS363
section JnS364
/-! The class: the larger, small steps, slices written. -/
section CSB
variable {g g' g2 : Nat → Prop} {l l' l2 : List Nat} {t t' t2 : Nat} {σ σ' σ2 : CS} {L : LV} {x y i : Int32} {M M' : Nat → Int32}
theorem c_larger (h : HQ g l t σ) (hx : Gv g (L.1 1)) (hy : Gv g (L.1 2)) : Tm (fun k => y_X0_larger k 0 L σ) (Qv g σ) := by
  have b5 : ∀ L' : LV, Gv g (L'.1 100) → Tm (fun k => y_X0_larger k 5 L' σ) (Qv g σ) := by
    intro L' d
    refine Tm_suc (fun k => by rw [y_X0_larger]) ?_
    exact Tm_some ⟨rfl, Or.inl d⟩
  have b3 : ∀ L' : LV, L'.1 1 = L.1 1 → L'.1 2 = L.1 2 → Tm (fun k => y_X0_larger k 3 L' σ) (Qv g σ) := by
    intro L' a1 a2
    refine Tm_suc (fun k => by rw [y_X0_larger]) ?_
    refine Tm_ite (fun _ => ?_) (fun _ => ?_)
    · refine b5 _ ?_
      show Gv g (L'.1 1); rw [a1]; exact hx
    · refine Tm_suc (fun k => by rw [y_X0_larger]) ?_
      refine b5 _ ?_
      show Gv g (L'.1 2); rw [a2]; exact hy
  refine Tm_suc (fun k => by rw [y_X0_larger]) ?_
  refine Tm_oc (c_compared h hx hy) (fun r q => ?_)
  have e : r.2 = σ := q.1
  rw [e]
  refine Tm_oc c_isError (fun r2 q2 => ?_)
  have e2 : r2.2 = σ := q2.1.1
  rw [e2]
  refine Tm_ite (fun _ => ?_) (fun _ => Tm_some ⟨rfl, q.2⟩)
  refine Tm_suc (fun k => by rw [y_X0_larger]) ?_
  refine Tm_ite (fun _ => b3 _ rfl rfl) (fun _ => ?_)
  refine Tm_suc (fun k => by rw [y_X0_larger]) ?_
  exact b3 _ rfl rfl
theorem c_smallSteps (g : Nat → Prop) : Tm (fun k => y_X0_smallSteps k 0 L σ) (fun r => AXf σ r.2 ∧ uN r.1 ≤ 1001 ∧ ∀ j, j < uN r.1 → Gv g (r.2.2.2.1 16 j)) := by
  have b2 : ∀ (L' : LV) (σ' : CS), AXf σ σ' → uN (L'.1 4) ≤ 1001 → (∀ j, j < uN (L'.1 4) → Gv g (σ'.2.2.1 16 j)) → Tm (fun k => y_X0_smallSteps k 2 L' σ') (fun r => AXf σ r.2 ∧ uN r.1 ≤ 1001 ∧ ∀ j, j < uN r.1 → Gv g (r.2.2.2.1 16 j)) := by
    intro L' σ' w a b
    refine Tm_suc (fun k => by rw [y_X0_smallSteps]) ?_
    exact Tm_some ⟨w, a, b⟩
  have b1 : ∀ (m : Nat) (L' : LV) (σ' : CS), AXf σ σ' → uN (L'.1 6) + m = 1001 → L'.1 4 = L'.1 6 → (∀ j, j < uN (L'.1 4) → Gv g (σ'.2.2.1 16 j)) → Tm (fun k => y_X0_smallSteps k 1 L' σ') (fun r => AXf σ r.2 ∧ uN r.1 ≤ 1001 ∧ ∀ j, j < uN r.1 → Gv g (r.2.2.2.1 16 j)) := by
    intro m
    induction m with
    | zero =>
      intro L' σ' w a6 a4 hr
      refine Tm_suc (fun k => by rw [y_X0_smallSteps]) ?_
      exact Tm_yes (by rw [u_ltn (by decide) (by omega)]; show 1000 < _; omega) (b2 _ _ w (by rw [a4]; omega) hr)
    | succ m ih =>
      intro L' σ' w a6 a4 hr
      have u4 : uN (L'.1 4) = uN (L'.1 6) := by rw [a4]
      have b4 : Tm (fun k => y_X0_smallSteps k 4 L' σ') (fun r => AXf σ r.2 ∧ uN r.1 ≤ 1001 ∧ ∀ j, j < uN r.1 → Gv g (r.2.2.2.1 16 j)) := by
        refine Tm_suc (fun k => by rw [y_X0_smallSteps]) ?_
        refine Tm_oc c_small (fun r q => ?_)
        have e : r.2 = σ' := q.1
        rw [e]
        refine Tm_chk (u_in (by omega) (by decide)) ?_
        have e4 : uN (L'.1 4 + 1) = uN (L'.1 4) + 1 := u_inc (by omega)
        refine ih _ _ (AXf_t w (AXf_A _ (by decide) _ _)) ?_ ?_ ?_
        · show uN (L'.1 6 + 1) + m = _
          rw [u_inc (by omega)]; omega
        · show L'.1 4 + 1 = L'.1 6 + 1
          rw [a4]
        · show ∀ j, j < uN (L'.1 4 + 1) → Gv g ((uA σ' 16 (L'.1 4).toNatClampNeg r.1).2.2.1 16 j)
          rw [e4, u_cl (by omega)]
          exact r16_p hr (W2_i (g := g) σ q.2.1 q.2.2).1
      refine Tm_suc (fun k => by rw [y_X0_smallSteps]) ?_
      refine Tm_ite (fun _ => b2 _ _ w (by omega) hr) (fun _ => Tm_ite (fun _ => b2 _ _ w (by omega) hr) (fun _ => Tm_ite (fun _ => ?_) (fun _ => Tm_ite (fun _ => b2 _ _ w (by omega) hr) (fun _ => b4))))
      refine Tm_suc (fun k => by rw [y_X0_smallSteps]) ?_
      exact Tm_ite (fun _ => b2 _ _ w (by omega) hr) (fun _ => b4)
  refine Tm_suc (fun k => by rw [y_X0_smallSteps]) ?_
  refine b1 1001 _ _ (AXf_r σ) ?_ ?_ ?_
  · rfl
  · rfl
  · intro j hj; exact absurd hj (Nat.not_lt_zero j)
theorem c_withSlice (h : HQ g l t σ) (hf : Gv g (L.1 1)) (hi : Gv g (L.1 2)) (hj : Gv g (L.1 3)) (hv : Gv g (L.1 4)) : Tm (fun k => y_X0_withSlice k 0 L σ) (Va g t σ) := by
  have ll := lnC_lt (σ.2.2.1 3) (L.1 1)
  have lv := lnC_lt (σ.2.2.1 3) (L.1 4)
  have ef : uN (nI (lnC (σ.2.2.1 3) (L.1 1))) = lnC (σ.2.2.1 3) (L.1 1) := u_n (by omega)
  have ev : uN (nI (lnC (σ.2.2.1 3) (L.1 4))) = lnC (σ.2.2.1 3) (L.1 4) := u_n (by omega)
  have kf := kdC_lt (σ.2.2.1 3) (L.1 1)
  have kv := kdC_lt (σ.2.2.1 3) (L.1 4)
  refine Tm_suc (fun k => by rw [y_X0_withSlice]) ?_
  refine Tm_ocE (c_kind h hv) ?_
  refine Tm_ocE (c_kind h hf) ?_
  refine Tm_ite (fun ck => ?_) (fun _ => ?_)
  · have ck' : nI (kdC (σ.2.2.1 3) (L.1 4)) = nI (kdC (σ.2.2.1 3) (L.1 1)) := ck
    rw [u_eq, u_n (by omega), u_n (by omega)] at ck'
    refine Tm_oc (c_rowError h hf hi hj) (fun r1 q1 => ?_)
    obtain ⟨e1, v1, p⟩ := q1
    rw [e1]
    refine Tm_suc (fun k => by rw [y_X0_withSlice]) ?_
    refine Tm_ite (fun c => ?_) (fun c => Tm_some (Va_e h (AXf_r σ) (v1.resolve_left c)))
    obtain ⟨k45, pa, pb, pc⟩ := p c
    have k45' : kdC (σ.2.2.1 3) (L.1 1) = 4 ∨ kdC (σ.2.2.1 3) (L.1 1) = 5 := k45
    have pa' : 1 ≤ uN (clC (σ.2.2.1 3) (L.1 2)) := pa
    have pb' : uN (clC (σ.2.2.1 3) (L.1 2)) ≤ uN (clC (σ.2.2.1 3) (L.1 3)) + 1 := pb
    have pc' : uN (clC (σ.2.2.1 3) (L.1 3)) ≤ lnC (σ.2.2.1 3) (L.1 1) := pc
    have ea : uN (clC (σ.2.2.1 3) (L.1 2) - 1) = uN (clC (σ.2.2.1 3) (L.1 2)) - 1 := by
      rw [u_sub (by show 1 ≤ _; omega)]; rfl
    have eb : uN (nI (lnC (σ.2.2.1 3) (L.1 1)) - clC (σ.2.2.1 3) (L.1 3)) = lnC (σ.2.2.1 3) (L.1 1) - uN (clC (σ.2.2.1 3) (L.1 3)) := by
      rw [u_sub (by omega), ef]
    refine Tm_suc (fun k => by rw [y_X0_withSlice]) ?_
    refine Tm_ocE (c_clampedE h hi) ?_
    refine Tm_ocE (c_clampedE h hj) ?_
    refine Tm_ocE (c_length h hf) ?_
    refine Tm_ocE (c_kind h hf) ?_
    refine Tm_ite (fun c4 => ?_) (fun c4 => ?_)
    · have k4 : kdC (σ.2.2.1 3) (L.1 1) = 4 := kd_n (n := 4) (by decide) c4
      refine Tm_oc (cb15 h (AXf_r σ) hf k4 ?_ (by show uN 0 ≤ 8192; decide)) (fun r6 q6 => ?_)
      · show 0 + uN (clC (σ.2.2.1 3) (L.1 2) - 1) ≤ lnC (σ.2.2.1 3) (L.1 1)
        omega
      have u6 : uN r6.1 = 0 + uN (clC (σ.2.2.1 3) (L.1 2) - 1) := q6.2
      have r3 : r6.2.2.2.1 3 = σ.2.2.1 3 := q6.1.2.2.1 3 (by decide)
      refine Tm_ocE (c_length (HQ_X h q6.1) hv) ?_
      rw [r3]
      refine Tm_oc (cb15 h q6.1 hv (by show kdC (σ.2.2.1 3) (L.1 4) = 4; omega) ?_ (by show uN r6.1 ≤ 8192; omega)) (fun r8 q8 => ?_)
      · show 0 + uN (nI (lnC (σ.2.2.1 3) (L.1 4))) ≤ lnC (σ.2.2.1 3) (L.1 4)
        omega
      have u8 : uN r8.1 = uN r6.1 + uN (nI (lnC (σ.2.2.1 3) (L.1 4))) := q8.2
      refine Tm_oc (cb15 h q8.1 hf k4 ?_ (by show uN r8.1 ≤ 8192; omega)) (fun r9 q9 => ?_)
      · show uN (clC (σ.2.2.1 3) (L.1 3)) + uN (nI (lnC (σ.2.2.1 3) (L.1 1)) - clC (σ.2.2.1 3) (L.1 3)) ≤ lnC (σ.2.2.1 3) (L.1 1)
        omega
      have u9 : uN r9.1 = uN r8.1 + uN (nI (lnC (σ.2.2.1 3) (L.1 1)) - clC (σ.2.2.1 3) (L.1 3)) := q9.2
      refine Tm_oc (mk15 h q9.1 rfl (fun _ => ?_)) (fun r z => Tm_some z)
      show uN r9.1 ≤ 8192
      omega
    · have k5 : kdC (σ.2.2.1 3) (L.1 1) = 5 := by
        rcases k45' with z | z
        · exact absurd (by show nI (kdC (σ.2.2.1 3) (L.1 1)) = 4; rw [z]; rfl) c4
        · exact z
      have sf : Sq5 g σ (L.1 1) := Sq5_k hf (by omega)
      have sv : Sq5 g σ (L.1 4) := Sq5_k hv (by omega)
      refine Tm_suc (fun k => by rw [y_X0_withSlice]) ?_
      refine Tm_oc (c_load0 h sf (by show uN 0 < _; decide) (by show uN (clC (σ.2.2.1 3) (L.1 2) - 1) ≤ lnC (σ.2.2.1 3) (L.1 1); omega) (by show uN 0 ≤ _; decide) (fun j hj => absurd hj (Nat.not_lt_zero j))) (fun r q => ?_)
      obtain ⟨f, f1, f2, f3⟩ := q
      rw [f1]
      have w := AXf_F σ (k := 16) (by decide) f
      refine Tm_ocE (c_length (HQ_X h w) hv) ?_
      refine Tm_oc (c_load0 (HQ_X h w) (Sq5_X w sv) (by show uN 0 < _; decide) (by show uN (nI (lnC (σ.2.2.1 3) (L.1 4))) ≤ lnC (σ.2.2.1 3) (L.1 4); omega) f2 f3) (fun r2 q2 => ?_)
      obtain ⟨f', g1, g2, g3⟩ := q2
      rw [g1]
      have w2 := AXf_t w (AXf_F (uF σ 16 f) (k := 16) (by decide) f')
      refine Tm_oc (c_load0 (HQ_X h w2) (Sq5_X w2 sf) (by show uN (clC (σ.2.2.1 3) (L.1 3)) < _; omega) (by show uN (nI (lnC (σ.2.2.1 3) (L.1 1))) ≤ lnC (σ.2.2.1 3) (L.1 1); omega) g2 g3) (fun r3 q3 => ?_)
      obtain ⟨f'', k1, k2, k3⟩ := q3
      rw [k1]
      exact Tm_oc (mt16 h (AXf_t w2 (AXf_F _ (k := 16) (by decide) f'')) rfl k2 k3) (fun r z => Tm_some z)
  · refine Tm_suc (fun k => by rw [y_X0_withSlice]) ?_
    refine Tm_suc (fun k => by rw [y_X0_withSlice]) ?_
    refine Tm_no (by show ¬ (-268435455 : Int32) = 0; decide) ?_
    exact Tm_some (Va_e h (AXf_r σ) eKind)
end CSB
end JnS364
section JnS365
/-! The class: a set out of the stack. -/
section CSC
variable {g g' g2 : Nat → Prop} {l l' l2 : List Nat} {t t' t2 : Nat} {σ σ' σ2 : CS} {L : LV} {x y i : Int32} {M M' : Nat → Int32}
/-- what setOf leaves: the stack's other places are the same -/
def SeO (g : Nat → Prop) (t : Nat) (σ : CS) (s n : Nat) (r : Int32 × CS) : Prop := ∃ f, (∀ j, j < s ∨ s + n ≤ j → f j = σ.2.2.1 20 j) ∧ Va g t (uF σ 20 f) r
theorem c_setOf (h : HQ g l t σ) (hN : sN σ 20 ≤ 1000000000) {s n : Nat} (h2 : uN (L.1 2) = s) (h3 : uN (L.1 3) = n) (he : s + n ≤ sN σ 20) (hv : ∀ j, j < n → Gv g (σ.2.2.1 20 (s + j))) : Tm (fun k => y_X0_setOf__z20 k 0 L σ) (SeO g t σ s n) := by
  have e23 : uN (L.1 2 + L.1 3) = s + n := by rw [u_add (by omega), h2, h3]
  have b5 : ∀ (L' : LV) (f : Nat → Int32), L'.1 2 = L.1 2 → uN (L'.1 4) ≤ n → (∀ j, j < s ∨ s + n ≤ j → f j = σ.2.2.1 20 j) → (∀ j, s ≤ j → j < s + uN (L'.1 4) → Gv g (f j)) → Tm (fun k => y_X0_setOf__z20 k 5 L' (uF σ 20 f)) (SeO g t σ s n) := by
    intro L' f a2 a4 fo fv
    have h' : HQ g l t (uF σ 20 f) := HQ_f h (by decide) f
    refine Tm_suc (fun k => by rw [y_X0_setOf__z20]) ?_
    refine Tm_oc (c_makeRow20 h' (Or.inr rfl) (by show sN σ 20 ≤ _; omega) rfl (fun _ _ => ?_)) (fun r q => Tm_some ⟨f, fo, Va_V (Vx_M q)⟩)
    show uN (L'.1 2) + uN (L'.1 4) ≤ sN σ 20 ∧ ∀ j, j < uN (L'.1 4) → Gv g (f (uN (L'.1 2) + j))
    rw [a2, h2]
    exact ⟨by omega, fun j hj => fv _ (by omega) (by omega)⟩
  have b4 : ∀ (m : Nat) (L' : LV) (f : Nat → Int32), L'.1 2 = L.1 2 → L'.1 3 = L.1 3 → uN (L'.1 6) + m = n → uN (L'.1 4) ≤ uN (L'.1 6) → (∀ j, j < s ∨ s + uN (L'.1 6) ≤ j → f j = σ.2.2.1 20 j) → (∀ j, s ≤ j → j < s + uN (L'.1 4) → Gv g (f j)) → Tm (fun k => y_X0_setOf__z20 k 4 L' (uF σ 20 f)) (SeO g t σ s n) := by
    intro m
    induction m with
    | zero =>
      intro L' f a2 a3 a6 a4 fo fv
      refine Tm_suc (fun k => by rw [y_X0_setOf__z20]) ?_
      refine Tm_yes (by rw [a3, u_le (by omega) (by omega)]; omega) (b5 _ f a2 (by omega) (fun j hj => fo j (by omega)) fv)
    | succ m ih =>
      intro L' f a2 a3 a6 a4 fo fv
      have h' : HQ g l t (uF σ 20 f) := HQ_f h (by decide) f
      have e26 : uN (L'.1 2 + L'.1 6) = s + uN (L'.1 6) := by rw [a2, u_add (by omega), h2]
      have e24 : uN (L'.1 2 + L'.1 4) = s + uN (L'.1 4) := by rw [a2, u_add (by omega), h2]
      have gx : Gv g (f (L'.1 2 + L'.1 6).toNatClampNeg) := by
        rw [u_cl (by omega), e26, fo _ (by omega)]
        exact hv _ (by omega)
      have b6 : ∀ (L2 : LV) (f2 : Nat → Int32), L2.1 2 = L.1 2 → L2.1 3 = L.1 3 → L2.1 6 = L'.1 6 → uN (L2.1 4) ≤ uN (L'.1 6) + 1 → (∀ j, j < s ∨ s + uN (L'.1 6) + 1 ≤ j → f2 j = σ.2.2.1 20 j) → (∀ j, s ≤ j → j < s + uN (L2.1 4) → Gv g (f2 j)) → Tm (fun k => y_X0_setOf__z20 k 6 L2 (uF σ 20 f2)) (SeO g t σ s n) := by
        intro L2 f2 z2 z3 z6 z4 zo zv
        have e6 : uN (L2.1 6 + 1) = uN (L'.1 6) + 1 := by rw [z6, u_inc (by omega)]
        refine Tm_suc (fun k => by rw [y_X0_setOf__z20]) ?_
        refine ih _ f2 ?_ ?_ ?_ ?_ ?_ ?_
        · exact z2
        · exact z3
        · show uN (L2.1 6 + 1) + m = n; omega
        · show uN (L2.1 4) ≤ uN (L2.1 6 + 1); omega
        · show ∀ j, j < s ∨ s + uN (L2.1 6 + 1) ≤ j → f2 j = σ.2.2.1 20 j
          rw [e6]; exact zo
        · exact zv
      refine Tm_suc (fun k => by rw [y_X0_setOf__z20]) ?_
      refine Tm_ite (fun c => absurd c (by rw [a3, u_le (by omega) (by omega)]; omega)) (fun _ => ?_)
      refine Tm_chk (u_in (by show uN (L'.1 2 + L'.1 6) < sN σ 20; omega) (by show sN σ 20 ≤ _; omega)) ?_
      refine Tm_oc (c_insert20 (s := s) (n := uN (L'.1 4)) (e := s + uN (L'.1 4)) h' (by show sN σ 20 ≤ _; omega) (by show uN (L'.1 2) = s; rw [a2, h2]) rfl e24 (Nat.le_refl _) (by show s + uN (L'.1 4) + 1 ≤ sN σ 20; omega) (fun j j1 j2 => fv j j1 j2) gx) (fun r q => ?_)
      rcases q with ⟨q1, q2⟩ | ⟨q1, f2, q2, q3, q4, q5, q6⟩
      · rw [q2]
        refine Tm_ite (fun _ => b6 _ f a2 a3 rfl (by omega) (fun j hj => fo j (by omega)) fv) (fun z => absurd q1 z)
      · rw [q2, uF_f]
        refine Tm_ite (fun z => absurd (z.symm.trans q1) (by decide)) (fun _ => ?_)
        have h2' : HQ g l t (uF σ 20 f2) := HQ_f h (by decide) f2
        have o2 : ∀ j, j < s ∨ s + uN (L'.1 6) + 1 ≤ j → f2 j = σ.2.2.1 20 j := by
          intro j hj
          rcases hj with hj | hj
          · exact (q3 j hj).trans (fo j (Or.inl hj))
          · exact (q6 j (by omega)).trans (fo j (Or.inr (by omega)))
        refine Tm_oc (c_size h2' gx) (fun r5 z5 => ?_)
        have e5 : r5.2 = uF σ 20 f2 := z5.1
        rw [e5]
        have e4 : uN (L'.1 4 + 1) = uN (L'.1 4) + 1 := u_inc (by omega)
        refine Tm_ite (fun _ => ?_) (fun _ => Tm_some ⟨f2, fun j hj => o2 j (by omega), Va_e h2' (AXf_r _) eSize⟩)
        refine b6 _ f2 ?_ ?_ ?_ ?_ o2 ?_
        · exact a2
        · exact a3
        · rfl
        · show uN (L'.1 4 + 1) ≤ _; omega
        · show ∀ j, s ≤ j → j < s + uN (L'.1 4 + 1) → Gv g (f2 j)
          rw [e4]
          intro j j1 j2
          exact q4 j j1 (by omega)
  have b1 : ∀ (m : Nat) (L' : LV), L'.1 2 = L.1 2 → L'.1 3 = L.1 3 → uN (L'.1 4) + m = s + n → Tm (fun k => y_X0_setOf__z20 k 1 L' σ) (SeO g t σ s n) := by
    intro m
    induction m with
    | zero =>
      intro L' a2 a3 a4
      refine Tm_suc (fun k => by rw [y_X0_setOf__z20]) ?_
      refine Tm_yes (by rw [a2, a3, u_le (by omega) (by omega)]; omega) ?_
      refine Tm_suc (fun k => by rw [y_X0_setOf__z20]) ?_
      have q := b4 n (lI (lI (lI L' 4 0) 5 1) 6 0) (σ.2.2.1 20) a2 a3 (by show 0 + n = n; omega) (Nat.le_refl _) (fun _ _ => rfl) (fun j j1 j2 => absurd j2 (by show ¬ j < s + 0; omega))
      rw [uF_id] at q
      exact q
    | succ m ih =>
      intro L' a2 a3 a4
      refine Tm_suc (fun k => by rw [y_X0_setOf__z20]) ?_
      refine Tm_ite (fun c => absurd c (by rw [a2, a3, u_le (by omega) (by omega)]; omega)) (fun _ => ?_)
      refine Tm_chk (u_in (by omega) (by omega)) ?_
      refine Tm_ite (fun _ => Tm_some ⟨σ.2.2.1 20, fun _ _ => rfl, ?_⟩) (fun _ => ?_)
      · rw [uF_id]
        exact Va_e h (AXf_r σ) (by show 4026531840 ≤ uN (-268435453) ∧ ¬ uN (-268435453) % 16 = 0; decide)
      · refine Tm_suc (fun k => by rw [y_X0_setOf__z20]) ?_
        refine ih _ ?_ ?_ ?_
        · exact a2
        · exact a3
        · show uN (L'.1 4 + 1) + m = _
          rw [u_inc (by omega)]; omega
  refine Tm_suc (fun k => by rw [y_X0_setOf__z20]) ?_
  refine b1 n _ ?_ ?_ ?_
  · rfl
  · rfl
  · show uN (L.1 2) + n = s + n; omega
end CSC
end JnS365
