/-! The class: products, any operator of two; codes. -/
section CRW
variable {g g' g2 : Nat → Prop} {l l' l2 : List Nat} {t t' t2 : Nat} {σ σ' σ2 : CS} {L : LV} {x y i : Int32} {M M' : Nat → Int32}
theorem c_productA (h : HQ g l t σ) (hx : Gv g (L.1 1)) (hy : Gv g (L.1 2)) : Tm (fun k => y_X0_product k 0 L σ) (Va g t σ) := by
  have b4 : ∀ (L' : LV) (σ' : CS), Va g t σ (L'.1 100, σ') → Tm (fun k => y_X0_product k 4 L' σ') (Va g t σ) := by
    intro L' σ' d
    refine Tm_suc (fun k => by rw [y_X0_product]) ?_
    exact Tm_some d
  have b8 : ∀ (L' : LV) (σ' : CS), Va g t σ (L'.1 100, σ') → Tm (fun k => y_X0_product k 8 L' σ') (Va g t σ) := by
    intro L' σ' d
    refine Tm_suc (fun k => by rw [y_X0_product]) ?_
    exact Tm_some d
  have b5 : ∀ L' : LV, Tm (fun k => y_X0_product k 5 L' σ) (Va g t σ) := by
    intro L'
    refine Tm_suc (fun k => by rw [y_X0_product]) ?_
    exact Tm_some (Va_e h (AXf_r σ) eKind)
  have b6 : ∀ L' : LV, L'.1 1 = L.1 1 → L'.1 2 = L.1 2 → L'.1 3 = nI (kdC (σ.2.2.1 3) (L.1 1)) → (kdC (σ.2.2.1 3) (L.1 1) = 4 ∨ kdC (σ.2.2.1 3) (L.1 1) = 5) → Tm (fun k => y_X0_product k 6 L' σ) (Va g t σ) := by
    intro L' a1 a2 a3 kk
    refine Tm_suc (fun k => by rw [y_X0_product]) ?_
    refine Tm_oc (c_isBelow h (by show Gv g (L'.1 2); rw [a2]; exact hy)) (fun r q => ?_)
    have e : r.2 = σ := q.1
    rw [e]
    refine Tm_ite (fun _ => ?_) (fun _ => b8 _ _ (Va_e h (AXf_r σ) ePlace))
    refine Tm_suc (fun k => by rw [y_X0_product]) ?_
    refine Tm_oc (c_clamped h (by show Gv g (L'.1 2); rw [a2]; exact hy)) (fun r2 q2 => ?_)
    have e2 : r2.2 = σ := q2
    rw [e2]
    refine Tm_oc (c_repeated h ?_ ?_ ?_) (fun r3 q3 => b8 _ _ q3)
    · show Gv g (L'.1 1); rw [a1]; exact hx
    · show L'.1 3 = nI (kdC (σ.2.2.1 3) (L'.1 1)); rw [a1]; exact a3
    · show kdC (σ.2.2.1 3) (L'.1 1) = 4 ∨ kdC (σ.2.2.1 3) (L'.1 1) = 5; rw [a1]; exact kk
  refine Tm_suc (fun k => by rw [y_X0_product]) ?_
  refine Tm_oc (c_areWholes h hx hy) (fun r1 z1 => ?_)
  have e1 : r1.2 = σ := z1.1
  rw [e1]
  refine Tm_ite (fun _ => ?_) (fun c => ?_)
  · refine Tm_suc (fun k => by rw [y_X0_product]) ?_
    refine Tm_oc (c_areSets h hx hy) (fun r2 z2 => ?_)
    have e2 : r2.2 = σ := z2.1
    rw [e2]
    refine Tm_ite (fun _ => ?_) (fun c => ?_)
    · refine Tm_suc (fun k => by rw [y_X0_product]) ?_
      refine Tm_ocE (c_kind h hx) ?_
      refine Tm_ocE (c_kind h hy) ?_
      refine Tm_ite (fun _ => Tm_ite (fun d => ?_) (fun _ => Tm_ite (fun d => ?_) (fun _ => b5 _))) (fun _ => b5 _)
      · exact b6 _ rfl rfl rfl (Or.inl (kd_n (n := 4) (by decide) d))
      · exact b6 _ rfl rfl rfl (Or.inr (kd_n (n := 5) (by decide) d))
    · have k := z2.2 c
      have k1 : kdC (σ.2.2.1 3) (L.1 1) = 6 := k.1
      have k2 : kdC (σ.2.2.1 3) (L.1 2) = 6 := k.2
      have sx : Sq5 g σ (L.1 1) := Sq5_k hx (by omega)
      have sy : Sq5 g σ (L.1 2) := Sq5_k hy (by omega)
      refine Tm_ocE (c_length h hx) ?_
      refine Tm_ocE (c_length h hy) ?_
      refine Tm_ite (fun _ => ?_) (fun _ => ?_)
      · refine Tm_suc (fun k => by rw [y_X0_product]) ?_
        exact Tm_oc (c_chosen h sy sx) (fun r q => b4 _ _ q)
      · exact Tm_oc (c_chosen h sx sy) (fun r q => b4 _ _ q)
  · have k := z1.2 c
    exact Tm_oc (c_product h ⟨hx, k.1⟩ ⟨hy, k.2⟩) (fun r q => Tm_some (Va_V q))
theorem c_binary (h : HQ g l t σ) (hx : Gv g (L.1 2)) (hy : Gv g (L.1 3)) : Tm (fun k => y_X0_binary k 0 L σ) (Va g t σ) := by
  have b8 : Tm (fun k => y_X0_binary k 8 L σ) (Va g t σ) := by
    refine Tm_suc (fun k => by rw [y_X0_binary]) ?_
    refine Tm_oc (c_compared h hx hy) (fun r q => ?_)
    have e : r.2 = σ := q.1
    rw [e]
    exact Tm_some (q.2.elim (fun z => Va_g h (AXf_r σ) z) (fun z => Va_e h (AXf_r σ) z))
  have s16 : ∀ (L' : LV) (σ' : CS), Va g t σ (L'.1 100, σ') → Tm (fun k => y_X0_binary k 16 L' σ') (Va g t σ) := by
    intro L' σ' d
    refine Tm_suc (fun k => by rw [y_X0_binary]) ?_
    exact Tm_some d
  have s20 : ∀ (L' : LV) (σ' : CS), Va g t σ (L'.1 100, σ') → Tm (fun k => y_X0_binary k 20 L' σ') (Va g t σ) := by
    intro L' σ' d
    refine Tm_suc (fun k => by rw [y_X0_binary]) ?_
    exact Tm_some d
  have s22 : ∀ (L' : LV) (σ' : CS), Va g t σ (L'.1 100, σ') → Tm (fun k => y_X0_binary k 22 L' σ') (Va g t σ) := by
    intro L' σ' d
    refine Tm_suc (fun k => by rw [y_X0_binary]) ?_
    exact Tm_some d
  have s23 : ∀ (L' : LV) (σ' : CS), Va g t σ (L'.1 100, σ') → Tm (fun k => y_X0_binary k 23 L' σ') (Va g t σ) := by
    intro L' σ' d
    refine Tm_suc (fun k => by rw [y_X0_binary]) ?_
    exact Tm_some d
  have s18 : ∀ (L' : LV), Tm (fun k => y_X0_binary k 18 L' σ) (Va g t σ) := by
    intro L'
    refine Tm_suc (fun k => by rw [y_X0_binary]) ?_
    refine Tm_oc c_truth (fun r q => ?_)
    have e : r.2 = σ := q.1
    rw [e]
    exact Tm_some (Va_g h (AXf_r σ) (q.2 g))
  have s25 : ∀ (L' : LV), Tm (fun k => y_X0_binary k 25 L' σ) (Va g t σ) := by
    intro L'
    refine Tm_suc (fun k => by rw [y_X0_binary]) ?_
    refine Tm_oc c_truth (fun r q => ?_)
    have e : r.2 = σ := q.1
    rw [e]
    exact s20 _ _ (Va_g h (AXf_r σ) (q.2 g))
  have s14 : ∀ (L' : LV), L'.1 102 = L.1 2 → L'.1 101 = L.1 3 → kdC (σ.2.2.1 3) (L.1 2) = 2 → kdC (σ.2.2.1 3) (L.1 3) = 2 → Tm (fun k => y_X0_binary k 14 L' σ) (Va g t σ) := by
    intro L' a b k1 k2
    refine Tm_suc (fun k => by rw [y_X0_binary]) ?_
    refine Tm_oc (c_divided h ?_ ?_) (fun r q => s23 _ _ (Va_V q))
    · show W2 g σ (L'.1 102); rw [a]; exact ⟨hx, k1⟩
    · show W2 g σ (L'.1 101); rw [b]; exact ⟨hy, k2⟩
  have b4 : Tm (fun k => y_X0_binary k 4 L σ) (Va g t σ) := by
    refine Tm_suc (fun k => by rw [y_X0_binary]) ?_
    refine Tm_oc (c_areWholes h hx hy) (fun r1 z1 => ?_)
    have e1 : r1.2 = σ := z1.1
    rw [e1]
    refine Tm_ite (fun _ => ?_) (fun c => ?_)
    · refine Tm_suc (fun k => by rw [y_X0_binary]) ?_
      exact s23 _ _ (Va_e h (AXf_r σ) eKind)
    · have k := z1.2 c
      refine Tm_ite (fun _ => s14 _ rfl rfl k.1 k.2) (fun _ => ?_)
      refine Tm_suc (fun k => by rw [y_X0_binary]) ?_
      exact s14 _ rfl rfl k.1 k.2
  have b9 : Tm (fun k => y_X0_binary k 9 L σ) (Va g t σ) := by
    refine Tm_suc (fun k => by rw [y_X0_binary]) ?_
    refine Tm_oc (c_contains h hy hx) (fun r q => ?_)
    have e : r.2 = σ := q.1
    rw [e]
    exact Tm_some (q.2.elim (fun z => Va_g h (AXf_r σ) z) (fun z => Va_e h (AXf_r σ) z))
  have b10 : Tm (fun k => y_X0_binary k 10 L σ) (Va g t σ) := by
    refine Tm_suc (fun k => by rw [y_X0_binary]) ?_
    refine Tm_oc (c_contains h hy hx) (fun r q => ?_)
    have e : r.2 = σ := q.1
    rw [e]
    refine Tm_oc c_isError (fun r2 q2 => ?_)
    have e2 : r2.2 = σ := q2.1.1
    rw [e2]
    refine Tm_ite (fun _ => ?_) (fun _ => s20 _ _ (q.2.elim (fun z => Va_g h (AXf_r σ) z) (fun z => Va_e h (AXf_r σ) z)))
    refine Tm_suc (fun k => by rw [y_X0_binary]) ?_
    refine Tm_ite (fun _ => s25 _) (fun _ => ?_)
    refine Tm_suc (fun k => by rw [y_X0_binary]) ?_
    exact s25 _
  have b11 : Tm (fun k => y_X0_binary k 11 L σ) (Va g t σ) := by
    refine Tm_suc (fun k => by rw [y_X0_binary]) ?_
    refine Tm_oc (c_areSets h hx hy) (fun r2 z2 => ?_)
    have e2 : r2.2 = σ := z2.1
    rw [e2]
    refine Tm_ite (fun _ => ?_) (fun c => ?_)
    · refine Tm_suc (fun k => by rw [y_X0_binary]) ?_
      exact s22 _ _ (Va_e h (AXf_r σ) eKind)
    · have k := z2.2 c
      have k1 : kdC (σ.2.2.1 3) (L.1 2) = 6 := k.1
      have k2 : kdC (σ.2.2.1 3) (L.1 3) = 6 := k.2
      refine Tm_oc (c_isSubset h (Sq5_k hx (by show 5 ≤ kdC (σ.2.2.1 3) (L.1 2); omega)) (Sq5_k hy (by show 5 ≤ kdC (σ.2.2.1 3) (L.1 3); omega))) (fun r q => ?_)
      have e : r.2 = σ := q
      rw [e]
      refine Tm_oc c_truth (fun r3 q3 => ?_)
      have e3 : r3.2 = σ := q3.1
      rw [e3]
      exact s22 _ _ (Va_g h (AXf_r σ) (q3.2 g))
  refine Tm_suc (fun k => by rw [y_X0_binary]) ?_
  refine Tm_ite (fun _ => ?_) (fun _ => Tm_ite (fun _ => ?_) (fun _ => Tm_ite (fun _ => ?_) (fun _ => Tm_ite (fun _ => b4) (fun _ => Tm_ite (fun _ => b4) (fun _ => Tm_ite (fun _ => ?_) (fun _ => Tm_ite (fun _ => ?_) (fun _ => Tm_ite (fun _ => ?_) (fun _ => Tm_ite (fun _ => b8) (fun _ => Tm_ite (fun _ => b8) (fun _ => Tm_ite (fun _ => b8) (fun _ => Tm_ite (fun _ => b8) (fun _ => Tm_ite (fun _ => b9) (fun _ => Tm_ite (fun _ => b10) (fun _ => Tm_ite (fun _ => b11) (fun _ => b8)))))))))))))))
  · refine Tm_suc (fun k => by rw [y_X0_binary]) ?_
    exact Tm_oc (c_sum h hx hy) (fun r q => Tm_some q)
  · refine Tm_suc (fun k => by rw [y_X0_binary]) ?_
    exact Tm_oc (c_difference h hx hy) (fun r q => Tm_some q)
  · refine Tm_suc (fun k => by rw [y_X0_binary]) ?_
    exact Tm_oc (c_productA h hx hy) (fun r q => Tm_some q)
  · refine Tm_suc (fun k => by rw [y_X0_binary]) ?_
    refine Tm_oc (c_areWholes h hx hy) (fun r1 z1 => ?_)
    have e1 : r1.2 = σ := z1.1
    rw [e1]
    refine Tm_ite (fun _ => ?_) (fun c => ?_)
    · refine Tm_suc (fun k => by rw [y_X0_binary]) ?_
      exact s16 _ _ (Va_e h (AXf_r σ) eKind)
    · have k := z1.2 c
      exact Tm_oc (c_power h ⟨hx, k.1⟩ ⟨hy, k.2⟩) (fun r q => s16 _ _ (Va_V q))
  · refine Tm_suc (fun k => by rw [y_X0_binary]) ?_
    refine Tm_oc (c_same h hx hy) (fun r q => ?_)
    have e : r.2 = σ := q.1
    rw [e]
    refine Tm_oc c_truth (fun r3 q3 => ?_)
    have e3 : r3.2 = σ := q3.1
    rw [e3]
    exact Tm_some (Va_g h (AXf_r σ) (q3.2 g))
  · refine Tm_suc (fun k => by rw [y_X0_binary]) ?_
    refine Tm_oc (c_same h hx hy) (fun r q => ?_)
    have e : r.2 = σ := q.1
    rw [e]
    refine Tm_ite (fun _ => s18 _) (fun _ => ?_)
    refine Tm_suc (fun k => by rw [y_X0_binary]) ?_
    exact s18 _
theorem c_charOf (h : HQ g l t σ) (hx : Gv g (L.1 1)) : Tm (fun k => y_X0_charOf k 0 L σ) (Qv g σ) := by
  have b2 : ∀ L' : LV, (Gv g (L'.1 100) ∨ Rw (L'.1 100)) → Tm (fun k => y_X0_charOf k 2 L' σ) (Qv g σ) := by
    intro L' d
    refine Tm_suc (fun k => by rw [y_X0_charOf]) ?_
    exact Tm_some ⟨rfl, d⟩
  have b1 : ∀ L' : LV, Tm (fun k => y_X0_charOf k 1 L' σ) (Qv g σ) := by
    intro L'
    refine Tm_suc (fun k => by rw [y_X0_charOf]) ?_
    exact b2 _ (Or.inr ePlace)
  refine Tm_suc (fun k => by rw [y_X0_charOf]) ?_
  refine Tm_oc (c_clamped h hx) (fun r q => ?_)
  have e : r.2 = σ := q
  rw [e]
  refine Tm_ite (fun _ => b1 _) (fun c => Tm_ite (fun _ => b1 _) (fun c2 => ?_))
  rw [u_neg] at c
  rw [u_ltn (by decide) (by omega)] at c2
  have c3 : uN r.1 ≤ 255 := Nat.le_of_not_lt c2
  refine b2 _ (Or.inl (Or.inl ?_))
  show 2147483648 ≤ uN (-1073741824 ||| r.1) ∧ (uN (-1073741824 ||| r.1) < 3489660928 ∨ (4026531840 ≤ uN (-1073741824 ||| r.1) ∧ ¬ uN (-1073741824 ||| r.1) % 16 = 0))
  rw [u_orB (k := 8) (a := 12582912) (by omega) (by decide)]
  have e0 : uN (-1073741824) = 3221225472 := rfl
  omega
theorem c_codeOf (h : HQ g l t σ) (hx : Gv g (L.1 1)) (kx : kdC (σ.2.2.1 3) (L.1 1) = 4) : Tm (fun k => y_X0_codeOf k 0 L σ) (Qv g σ) := by
  have la := lnC_lt (σ.2.2.1 3) (L.1 1)
  have b2 : ∀ L' : LV, (Gv g (L'.1 100) ∨ Rw (L'.1 100)) → Tm (fun k => y_X0_codeOf k 2 L' σ) (Qv g σ) := by
    intro L' d
    refine Tm_suc (fun k => by rw [y_X0_codeOf]) ?_
    exact Tm_some ⟨rfl, d⟩
  refine Tm_suc (fun k => by rw [y_X0_codeOf]) ?_
  refine Tm_ocE (c_length h hx) ?_
  refine Tm_ite (fun c => ?_) (fun _ => ?_)
  · have c' : nI (lnC (σ.2.2.1 3) (L.1 1)) = 1 := c
    rw [u_eq, u_n (by omega)] at c'
    have c2 : lnC (σ.2.2.1 3) (L.1 1) = 1 := c'
    refine Tm_oc (c_byteAt h hx (fun _ => ⟨kx, by show uN 0 < lnC (σ.2.2.1 3) (L.1 1); rw [c2]; decide⟩)) (fun r q => ?_)
    have e : r.2 = σ := q.1
    rw [e]
    refine Tm_oc c_small (fun r2 q2 => ?_)
    have e2 : r2.2 = σ := q2.1
    rw [e2]
    exact b2 _ (Or.inl (W2_i (g := g) σ q2.2.1 q2.2.2).1)
  · refine Tm_suc (fun k => by rw [y_X0_codeOf]) ?_
    exact b2 _ (Or.inr ePlace)
end CRW
