/-! The class: operators of two. -/
section CRV
variable {g g' g2 : Nat → Prop} {l l' l2 : List Nat} {t t' t2 : Nat} {σ σ' σ2 : CS} {L : LV} {x y i : Int32} {M M' : Nat → Int32}
theorem eKind : Rw (-268435455) := by show 4026531840 ≤ uN (-268435455) ∧ ¬ uN (-268435455) % 16 = 0; decide
theorem ePlace : Rw (-268435452) := by show 4026531840 ≤ uN (-268435452) ∧ ¬ uN (-268435452) % 16 = 0; decide
theorem eSize : Rw (-268435451) := by show 4026531840 ≤ uN (-268435451) ∧ ¬ uN (-268435451) % 16 = 0; decide
theorem mk15 (h : HQ g l t σ) (w : AXf σ σ') {L : LV} (h2 : uN (L.1 2) = 0) (h3 : uN (L.1 3) < 2147483648 → uN (L.1 3) ≤ 8192) : Tm (fun k => y_X1_makeString__a15 k 0 L σ') (Va g t σ) := by
  refine Tm_mono (c_makeString15 (HQ_X h w) (fun _ z => ?_)) (fun r q => Va_M h w q)
  rw [h2]
  have := h3 z
  omega
/-- bytes of a string into row 15 -/
theorem cb15 (h : HQ g l t σ) (w : AXf σ σ') {L : LV} (hx : Gv g (L.1 1)) (kx : kdC (σ.2.2.1 3) (L.1 1) = 4) (n1 : uN (L.1 2) + uN (L.1 3) ≤ lnC (σ.2.2.1 3) (L.1 1)) (b1 : uN (L.1 5) ≤ 8192) : Tm (fun k => y_X1_copyBytes__a15 k 0 L σ') (fun r => AXf σ r.2 ∧ uN r.1 = uN (L.1 5) + uN (L.1 3)) := by
  have ll := lnC_lt (σ.2.2.1 3) (L.1 1)
  have r3 : σ'.2.2.1 3 = σ.2.2.1 3 := w.2.2.1 3 (by decide)
  refine Tm_mono (c_copyBytes15 (HQ_X h w) hx (by omega) (by omega) (fun c => ?_)) (fun r q => ?_)
  · rw [r3]
    refine ⟨str_k kx c, ?_⟩
    have el : lnC (σ.2.2.1 3) (L.1 1) = hdL (uN (σ.2.2.1 3 (uN (L.1 1)))) := if_pos c
    omega
  · obtain ⟨q1, f, q2⟩ := q
    refine ⟨by rw [q2]; exact AXf_t w (AXf_F σ' (by decide) f), ?_⟩
    rw [q1, u_add (by omega)]
theorem c_joined (h : HQ g l t σ) (hx : Gv g (L.1 1)) (hy : Gv g (L.1 2)) (kx : kdC (σ.2.2.1 3) (L.1 1) = 4) (ky : kdC (σ.2.2.1 3) (L.1 2) = 4) : Tm (fun k => y_X0_joined k 0 L σ) (Va g t σ) := by
  have la := lnC_lt (σ.2.2.1 3) (L.1 1)
  have lb := lnC_lt (σ.2.2.1 3) (L.1 2)
  have ea : uN (nI (lnC (σ.2.2.1 3) (L.1 1))) = lnC (σ.2.2.1 3) (L.1 1) := u_n (by omega)
  have eb : uN (nI (lnC (σ.2.2.1 3) (L.1 2))) = lnC (σ.2.2.1 3) (L.1 2) := u_n (by omega)
  refine Tm_suc (fun k => by rw [y_X0_joined]) ?_
  refine Tm_ocE (c_length h hx) ?_
  refine Tm_oc (cb15 h (AXf_r σ) hx kx (by show 0 + uN (nI (lnC (σ.2.2.1 3) (L.1 1))) ≤ lnC (σ.2.2.1 3) (L.1 1); omega) (by show uN 0 ≤ 8192; decide)) (fun r2 q2 => ?_)
  have u2 : uN r2.1 = 0 + uN (nI (lnC (σ.2.2.1 3) (L.1 1))) := q2.2
  have r3 : r2.2.2.2.1 3 = σ.2.2.1 3 := q2.1.2.2.1 3 (by decide)
  refine Tm_ocE (c_length (HQ_X h q2.1) hy) ?_
  rw [r3]
  refine Tm_oc (cb15 h q2.1 hy ky (by show 0 + uN (nI (lnC (σ.2.2.1 3) (L.1 2))) ≤ lnC (σ.2.2.1 3) (L.1 2); omega) (by show uN r2.1 ≤ 8192; omega)) (fun r4 q4 => ?_)
  have u4 : uN r4.1 = uN r2.1 + uN (nI (lnC (σ.2.2.1 3) (L.1 2))) := q4.2
  exact Tm_oc (mk15 h q4.1 rfl (fun _ => by show uN r4.1 ≤ 8192; omega)) (fun r q => Tm_some q)
theorem c_sum (h : HQ g l t σ) (hx : Gv g (L.1 1)) (hy : Gv g (L.1 2)) : Tm (fun k => y_X0_sum k 0 L σ) (Va g t σ) := by
  have q1 := kdC_lt (σ.2.2.1 3) (L.1 1)
  have q2 := kdC_lt (σ.2.2.1 3) (L.1 2)
  have la := lnC_lt (σ.2.2.1 3) (L.1 1)
  have lb := lnC_lt (σ.2.2.1 3) (L.1 2)
  have b3 : ∀ L' : LV, Tm (fun k => y_X0_sum k 3 L' σ) (Va g t σ) := by
    intro L'
    refine Tm_suc (fun k => by rw [y_X0_sum]) ?_
    exact Tm_some (Va_e h (AXf_r σ) eKind)
  have b8 : ∀ (L' : LV) (σ' : CS), Va g t σ (L'.1 100, σ') → Tm (fun k => y_X0_sum k 8 L' σ') (Va g t σ) := by
    intro L' σ' d
    refine Tm_suc (fun k => by rw [y_X0_sum]) ?_
    exact Tm_some d
  refine Tm_suc (fun k => by rw [y_X0_sum]) ?_
  refine Tm_ocE (c_kind h hx) ?_
  refine Tm_ocE (c_kind h hy) ?_
  refine Tm_ite (fun c => ?_) (fun _ => Tm_some (Va_e h (AXf_r σ) eKind))
  have c' : nI (kdC (σ.2.2.1 3) (L.1 1)) = nI (kdC (σ.2.2.1 3) (L.1 2)) := c
  rw [u_eq, u_n (by omega), u_n (by omega)] at c'
  refine Tm_suc (fun k => by rw [y_X0_sum]) ?_
  refine Tm_ite (fun d => ?_) (fun _ => Tm_ite (fun _ => b3 _) (fun _ => Tm_ite (fun d => ?_) (fun _ => Tm_ite (fun d => ?_) (fun _ => Tm_ite (fun d => ?_) (fun _ => b3 _)))))
  · have k : kdC (σ.2.2.1 3) (L.1 1) = 2 := kd_n (n := 2) (by decide) d
    refine Tm_suc (fun k => by rw [y_X0_sum]) ?_
    exact Tm_oc (c_added h ⟨hx, k⟩ ⟨hy, by show kdC (σ.2.2.1 3) (L.1 2) = 2; omega⟩) (fun r q => Tm_some (Va_V q))
  · have k : kdC (σ.2.2.1 3) (L.1 1) = 4 := kd_n (n := 4) (by decide) d
    refine Tm_suc (fun k => by rw [y_X0_sum]) ?_
    exact Tm_oc (c_joined h hx hy k (by show kdC (σ.2.2.1 3) (L.1 2) = 4; omega)) (fun r q => Tm_some q)
  · have k : kdC (σ.2.2.1 3) (L.1 1) = 5 := kd_n (n := 5) (by decide) d
    have sx : Sq5 g σ (L.1 1) := Sq5_k hx (by omega)
    have sy : Sq5 g σ (L.1 2) := Sq5_k hy (by omega)
    refine Tm_suc (fun k => by rw [y_X0_sum]) ?_
    refine Tm_ocE (c_length h hx) ?_
    refine Tm_oc (c_load0 h sx (by show uN 0 < _; decide) (by show uN (nI (lnC (σ.2.2.1 3) (L.1 1))) ≤ lnC (σ.2.2.1 3) (L.1 1); rw [u_n (by omega)]; exact Nat.le_refl _) (by show uN 0 ≤ _; decide) (fun j hj => absurd hj (Nat.not_lt_zero j))) (fun r2 z2 => ?_)
    obtain ⟨f, f1, f2, f3⟩ := z2
    rw [f1]
    have w := AXf_F σ (k := 16) (by decide) f
    refine Tm_ocE (c_length (HQ_X h w) hy) ?_
    refine Tm_oc (c_load0 (HQ_X h w) (Sq5_X w sy) (by show uN 0 < _; decide) (by show uN (nI (lnC (σ.2.2.1 3) (L.1 2))) ≤ lnC (σ.2.2.1 3) (L.1 2); rw [u_n (by omega)]; exact Nat.le_refl _) f2 f3) (fun r4 z4 => ?_)
    obtain ⟨e, e1, e2, e3⟩ := z4
    rw [e1]
    exact Tm_oc (mt16 h (AXf_t w (AXf_F _ (k := 16) (by decide) e)) rfl e2 e3) (fun r q => Tm_some q)
  · have k : kdC (σ.2.2.1 3) (L.1 1) = 6 := kd_n (n := 6) (by decide) d
    have sx : Sq5 g σ (L.1 1) := Sq5_k hx (by omega)
    have sy : Sq5 g σ (L.1 2) := Sq5_k hy (by omega)
    refine Tm_suc (fun k => by rw [y_X0_sum]) ?_
    refine Tm_ocE (c_length h hx) ?_
    refine Tm_ocE (c_length h hy) ?_
    refine Tm_ite (fun _ => ?_) (fun _ => ?_)
    · refine Tm_suc (fun k => by rw [y_X0_sum]) ?_
      exact Tm_oc (c_union h sx sy) (fun r q => b8 _ _ q)
    · exact Tm_oc (c_union h sy sx) (fun r q => b8 _ _ q)
theorem c_difference (h : HQ g l t σ) (hx : Gv g (L.1 1)) (hy : Gv g (L.1 2)) : Tm (fun k => y_X0_difference k 0 L σ) (Va g t σ) := by
  have b4 : ∀ (L' : LV) (σ' : CS), Va g t σ (L'.1 100, σ') → Tm (fun k => y_X0_difference k 4 L' σ') (Va g t σ) := by
    intro L' σ' d
    refine Tm_suc (fun k => by rw [y_X0_difference]) ?_
    exact Tm_some d
  refine Tm_suc (fun k => by rw [y_X0_difference]) ?_
  refine Tm_oc (c_areWholes h hx hy) (fun r1 z1 => ?_)
  have e1 : r1.2 = σ := z1.1
  rw [e1]
  refine Tm_ite (fun _ => ?_) (fun c => ?_)
  · refine Tm_suc (fun k => by rw [y_X0_difference]) ?_
    refine Tm_oc (c_areSets h hx hy) (fun r2 z2 => ?_)
    have e2 : r2.2 = σ := z2.1
    rw [e2]
    refine Tm_ite (fun _ => Tm_some (Va_e h (AXf_r σ) eKind)) (fun c => ?_)
    have k := z2.2 c
    have k1 : kdC (σ.2.2.1 3) (L.1 1) = 6 := k.1
    have k2 : kdC (σ.2.2.1 3) (L.1 2) = 6 := k.2
    have sx : Sq5 g σ (L.1 1) := Sq5_k hx (by omega)
    have sy : Sq5 g σ (L.1 2) := Sq5_k hy (by omega)
    refine Tm_suc (fun k => by rw [y_X0_difference]) ?_
    refine Tm_ocE (c_length h hy) ?_
    refine Tm_ocE (c_length h hx) ?_
    refine Tm_ite (fun _ => ?_) (fun _ => ?_)
    · refine Tm_suc (fun k => by rw [y_X0_difference]) ?_
      exact Tm_oc (c_without h sx sy) (fun r q => b4 _ _ q)
    · exact Tm_oc (c_chosen h sx sy) (fun r q => b4 _ _ q)
  · have k := z1.2 c
    exact Tm_oc (c_added h ⟨hx, k.1⟩ ⟨hy, k.2⟩) (fun r q => Tm_some (Va_V q))
/-- a product within a limit -/
theorem rp_mul {a b : Int32} {c : Int32} (ha : uN a ≤ 4095) (hb : uN b < 2147483648) (hc : uN c ≤ 4000) (h : nbCmp (a.toInt64 * b.toInt64) c.toInt64 ≤ 0) : uN a * uN b ≤ uN c := by
  have ia : a.toInt64.toInt = (uN a : Int) := by rw [Int32.toInt_toInt64, u_int, if_pos (by omega)]
  have ib : b.toInt64.toInt = (uN b : Int) := by rw [Int32.toInt_toInt64, u_int, if_pos (by omega)]
  have ic : c.toInt64.toInt = (uN c : Int) := by rw [Int32.toInt_toInt64, u_int, if_pos (by omega)]
  have m : uN a * uN b ≤ 4095 * 2147483648 := Nat.mul_le_mul ha (Nat.le_of_lt hb)
  rw [w_cmp, Int64.toInt_mul, ia, ib, ic, ← Int.natCast_mul] at h
  generalize uN a * uN b = z at h m
  rw [Int.bmod_eq_of_le (by omega) (by omega)] at h
  omega
theorem c_repeated (h : HQ g l t σ) (hx : Gv g (L.1 1)) (hk : L.1 2 = nI (kdC (σ.2.2.1 3) (L.1 1))) (k45 : kdC (σ.2.2.1 3) (L.1 1) = 4 ∨ kdC (σ.2.2.1 3) (L.1 1) = 5) : Tm (fun k => y_X0_repeated k 0 L σ) (Va g t σ) := by
  have la := lnC_lt (σ.2.2.1 3) (L.1 1)
  have ea : uN (nI (lnC (σ.2.2.1 3) (L.1 1))) = lnC (σ.2.2.1 3) (L.1 1) := u_n (by omega)
  have h0 : Gv g 0 := Or.inr ⟨by decide, h.2.2.2.1.1⟩
  have h1 : Gv g 1 := Or.inr ⟨by decide, h.2.2.2.1.2.1⟩
  have b4 : ∀ L' : LV, Gv g (L'.1 100) → Tm (fun k => y_X0_repeated k 4 L' σ) (Va g t σ) := by
    intro L' d
    refine Tm_suc (fun k => by rw [y_X0_repeated]) ?_
    exact Tm_some (Va_g h (AXf_r σ) d)
  have b1 : ∀ L' : LV, Tm (fun k => y_X0_repeated k 1 L' σ) (Va g t σ) := by
    intro L'
    refine Tm_suc (fun k => by rw [y_X0_repeated]) ?_
    refine Tm_ite (fun _ => b4 _ h0) (fun _ => ?_)
    refine Tm_suc (fun k => by rw [y_X0_repeated]) ?_
    exact b4 _ h1
  have b13 : ∀ (L' : LV) (σ' : CS), Va g t σ (L'.1 100, σ') → Tm (fun k => y_X0_repeated k 13 L' σ') (Va g t σ) := by
    intro L' σ' d
    refine Tm_suc (fun k => by rw [y_X0_repeated]) ?_
    exact Tm_some d
  have k4 : L.1 2 = 4 ↔ kdC (σ.2.2.1 3) (L.1 1) = 4 := by
    rw [hk, u_eq, u_n (by omega)]; exact Iff.rfl
  have b9 : ∀ (L' : LV) (σ' : CS), AXf σ σ' → L'.1 2 = L.1 2 → uN (L'.1 5) ≤ 8192 → (¬ L.1 2 = 4 → uN (L'.1 5) ≤ 2048 ∧ ∀ j, j < uN (L'.1 5) → Gv g (σ'.2.2.1 16 j)) → Tm (fun k => y_X0_repeated k 9 L' σ') (Va g t σ) := by
    intro L' σ' w a2 a5 a16
    refine Tm_suc (fun k => by rw [y_X0_repeated]) ?_
    refine Tm_ite (fun _ => ?_) (fun c => ?_)
    · exact Tm_oc (mk15 h w rfl (fun _ => a5)) (fun r q => b13 _ _ q)
    · rw [a2] at c
      refine Tm_suc (fun k => by rw [y_X0_repeated]) ?_
      exact Tm_oc (mt16 h w rfl (a16 c).1 (a16 c).2) (fun r q => b13 _ _ q)
  have b8 : ∀ (m : Nat) (L' : LV) (σ' : CS), AXf σ σ' → (uN (L.1 3) < 2147483648 → uN (L'.1 6) + m = uN (L.1 3) ∧ lnC (σ.2.2.1 3) (L.1 1) * uN (L.1 3) ≤ 4000) → (2147483648 ≤ uN (L.1 3) → m = 0 ∧ uN (L'.1 6) = 0) → L'.1 1 = L.1 1 → L'.1 2 = L.1 2 → L'.1 3 = L.1 3 → L'.1 4 = nI (lnC (σ.2.2.1 3) (L.1 1)) → (L.1 2 = 4 → uN (L'.1 5) = lnC (σ.2.2.1 3) (L.1 1) * uN (L'.1 6)) → uN (L'.1 5) ≤ 8192 → (¬ L.1 2 = 4 → uN (L'.1 5) ≤ 2048 ∧ ∀ j, j < uN (L'.1 5) → Gv g (σ'.2.2.1 16 j)) → Tm (fun k => y_X0_repeated k 8 L' σ') (Va g t σ) := by
    intro m
    induction m with
    | zero =>
      intro L' σ' w p1 p2 a1 a2 a3 a4 a5 a5' a16
      refine Tm_suc (fun k => by rw [y_X0_repeated]) ?_
      rw [a3]
      refine Tm_yes ?_ (b9 _ _ w a2 a5' a16)
      have q := u_lt (L.1 3)
      rcases Nat.lt_or_ge (uN (L.1 3)) 2147483648 with z | z
      · have p := (p1 z).1
        rw [u_le (by omega) (by omega)]; omega
      · have p := p2 z
        rw [i_le, u_int, u_int, if_neg (by omega), if_pos (by omega)]
        omega
    | succ m ih =>
      intro L' σ' w p1 p2 a1 a2 a3 a4 a5 a5' a16
      have q := u_lt (L.1 3)
      have z : uN (L.1 3) < 2147483648 := by
        rcases Nat.lt_or_ge (uN (L.1 3)) 2147483648 with z | z
        · exact z
        · have p := p2 z
          omega
      have p := p1 z
      have b11 : ∀ (L2 : LV) (σ2 : CS), AXf σ σ2 → L2.1 6 = L'.1 6 → L2.1 1 = L.1 1 → L2.1 2 = L.1 2 → L2.1 3 = L.1 3 → L2.1 4 = nI (lnC (σ.2.2.1 3) (L.1 1)) → (L.1 2 = 4 → uN (L2.1 100) = lnC (σ.2.2.1 3) (L.1 1) * (uN (L'.1 6) + 1)) → uN (L2.1 100) ≤ 8192 → (¬ L.1 2 = 4 → uN (L2.1 100) ≤ 2048 ∧ ∀ j, j < uN (L2.1 100) → Gv g (σ2.2.2.1 16 j)) → Tm (fun k => y_X0_repeated k 11 L2 σ2) (Va g t σ) := by
        intro L2 σ2 w2 z6 z1 z2 z3 z4 z5 z5' z16
        have e6 : uN (L2.1 6 + 1) = uN (L'.1 6) + 1 := by rw [z6, u_inc (by omega)]
        refine Tm_suc (fun k => by rw [y_X0_repeated]) ?_
        refine ih _ _ w2 (fun _ => ⟨?_, p.2⟩) (fun y => absurd y (by omega)) ?_ ?_ ?_ ?_ ?_ ?_ ?_
        · show uN (L2.1 6 + 1) + m = _; omega
        · exact z1
        · exact z2
        · exact z3
        · exact z4
        · intro y
          show uN (L2.1 100) = lnC (σ.2.2.1 3) (L.1 1) * uN (L2.1 6 + 1)
          rw [e6]; exact z5 y
        · exact z5'
        · exact z16
      have mm : lnC (σ.2.2.1 3) (L.1 1) * (uN (L'.1 6) + 1) ≤ 4000 := Nat.le_trans (Nat.mul_le_mul_left _ (by omega)) p.2
      rw [Nat.mul_add, Nat.mul_one] at mm
      refine Tm_suc (fun k => by rw [y_X0_repeated]) ?_
      rw [a2, a3]
      refine Tm_ite (fun c => absurd c (by rw [u_le (by omega) (by omega)]; omega)) (fun _ => ?_)
      refine Tm_ite (fun c => ?_) (fun c => ?_)
      · have u5 := a5 c
        refine Tm_oc (cb15 h w (by show Gv g (L'.1 1); rw [a1]; exact hx) (by show kdC (σ.2.2.1 3) (L'.1 1) = 4; rw [a1]; exact k4.1 c) (by show 0 + uN (L'.1 4) ≤ lnC (σ.2.2.1 3) (L'.1 1); rw [a1, a4]; omega) (by show uN (L'.1 5) ≤ 8192; exact a5')) (fun r zr => ?_)
        have ur : uN r.1 = uN (L'.1 5) + uN (L'.1 4) := zr.2
        rw [a4, ea] at ur
        refine b11 _ _ zr.1 ?_ ?_ ?_ ?_ ?_ ?_ ?_ ?_
        · rfl
        · exact a1
        · exact a2
        · exact a3
        · exact a4
        · intro _
          show uN r.1 = _
          rw [Nat.mul_add, Nat.mul_one]; omega
        · show uN r.1 ≤ 8192; omega
        · intro y; exact absurd c y
      · have k5 : kdC (σ.2.2.1 3) (L.1 1) = 5 := k45.resolve_left (fun y => c (k4.2 y))
        have sx : Sq5 g σ' (L'.1 1) := Sq5_X w (by rw [a1]; exact Sq5_k hx (by omega))
        have r3 : σ'.2.2.1 3 = σ.2.2.1 3 := w.2.2.1 3 (by decide)
        refine Tm_suc (fun k => by rw [y_X0_repeated]) ?_
        refine Tm_oc (c_load0 (HQ_X h w) sx (by show uN 0 < _; decide) (by show uN (L'.1 4) ≤ lnC (σ'.2.2.1 3) (L'.1 1); rw [r3, a1, a4]; omega) (a16 c).1 (a16 c).2) (fun r zr => ?_)
        obtain ⟨f, f1, f2, f3⟩ := zr
        rw [f1]
        refine b11 _ _ (AXf_t w (AXf_F σ' (by decide) f)) ?_ ?_ ?_ ?_ ?_ ?_ ?_ ?_
        · rfl
        · exact a1
        · exact a2
        · exact a3
        · exact a4
        · intro y; exact absurd y c
        · show uN r.1 ≤ 8192; omega
        · intro _; exact ⟨f2, f3⟩
  have b6 : ∀ (L' : LV), L'.1 1 = L.1 1 → L'.1 2 = L.1 2 → L'.1 3 = L.1 3 → L'.1 4 = nI (lnC (σ.2.2.1 3) (L.1 1)) → uN (L'.1 100) ≤ 4000 → L'.2.1 101 = (L'.1 4).toInt64 * (L'.1 3).toInt64 → Tm (fun k => y_X0_repeated k 6 L' σ) (Va g t σ) := by
    intro L' a1 a2 a3 a4 a100 a101
    refine Tm_suc (fun k => by rw [y_X0_repeated]) ?_
    refine Tm_ite (fun c => ?_) (fun _ => Tm_some (Va_e h (AXf_r σ) eSize))
    rw [a101] at c
    refine Tm_suc (fun k => by rw [y_X0_repeated]) ?_
    refine b8 (if uN (L.1 3) < 2147483648 then uN (L.1 3) else 0) _ _ (AXf_r σ) (fun z => ⟨?_, ?_⟩) (fun z => ⟨if_neg (by omega), rfl⟩) ?_ ?_ ?_ ?_ ?_ ?_ ?_
    · rw [if_pos z]; show 0 + _ = _; omega
    · have m := rp_mul (by rw [a4]; omega) (by rw [a3]; exact z) a100 c
      rw [a3, a4, ea] at m
      omega
    · exact a1
    · exact a2
    · exact a3
    · exact a4
    · intro _; show uN 0 = _ * uN 0
      rw [show uN 0 = 0 from rfl, Nat.mul_zero]
    · show uN 0 ≤ 8192; decide
    · intro _; exact ⟨by show uN 0 ≤ 2048; decide, fun j hj => absurd hj (Nat.not_lt_zero j)⟩
  refine Tm_suc (fun k => by rw [y_X0_repeated]) ?_
  refine Tm_ocE (c_length h hx) ?_
  refine Tm_ite (fun _ => b1 _) (fun _ => Tm_ite (fun _ => b1 _) (fun _ => ?_))
  refine Tm_suc (fun k => by rw [y_X0_repeated]) ?_
  refine Tm_ite (fun _ => ?_) (fun _ => ?_)
  · refine b6 _ rfl rfl rfl rfl ?_ rfl
    show uN 4000 ≤ 4000; decide
  · refine Tm_suc (fun k => by rw [y_X0_repeated]) ?_
    refine b6 _ rfl rfl rfl rfl ?_ rfl
    show uN 1000 ≤ 4000; decide
end CRV
