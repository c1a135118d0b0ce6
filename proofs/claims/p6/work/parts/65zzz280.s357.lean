/-! The class: choosing, holding, comparing. -/
section CRU
variable {g g' g2 : Nat → Prop} {l l' l2 : List Nat} {t t' t2 : Nat} {σ σ' σ2 : CS} {L : LV} {x y i : Int32} {M M' : Nat → Int32}
theorem c_chosen (h : HQ g l t σ) (hx : Sq5 g σ (L.1 1)) (hy : Sq5 g σ (L.1 2)) : Tm (fun k => y_X0_chosen k 0 L σ) (Va g t σ) := by
  have la := lnC_lt (σ.2.2.1 3) (L.1 1)
  have ea : uN (nI (lnC (σ.2.2.1 3) (L.1 1))) = lnC (σ.2.2.1 3) (L.1 1) := u_n (by omega)
  have b2 : ∀ (L' : LV) (σ' : CS), AXf σ σ' → uN (L'.1 4) ≤ 2048 → (∀ j, j < uN (L'.1 4) → Gv g (σ'.2.2.1 16 j)) → Tm (fun k => y_X0_chosen k 2 L' σ') (Va g t σ) := by
    intro L' σ' w a4 hr
    refine Tm_suc (fun k => by rw [y_X0_chosen]) ?_
    exact Tm_oc (mk16 (n := 0) h w (Or.inr rfl) rfl rfl a4 hr) (fun r z => Tm_some z)
  have b1 : ∀ (m : Nat) (L' : LV) (σ' : CS), AXf σ σ' → uN (L'.1 5) + m = lnC (σ.2.2.1 3) (L.1 1) → L'.1 1 = L.1 1 → L'.1 2 = L.1 2 → uN (L'.1 4) ≤ 2048 → (∀ j, j < uN (L'.1 4) → Gv g (σ'.2.2.1 16 j)) → Tm (fun k => y_X0_chosen k 1 L' σ') (Va g t σ) := by
    intro m
    induction m with
    | zero =>
      intro L' σ' w a5 a1 a2 a4 hr
      have r3 : σ'.2.2.1 3 = σ.2.2.1 3 := w.2.2.1 3 (by decide)
      have hx' : Sq5 g σ' (L'.1 1) := Sq5_X w (by rw [a1]; exact hx)
      refine Tm_suc (fun k => by rw [y_X0_chosen]) ?_
      refine Tm_ocE (c_length (HQ_X h w) hx'.1) ?_
      refine Tm_yes ?_ (b2 _ _ w a4 hr)
      show nI (lnC (σ'.2.2.1 3) (L'.1 1)) ≤ L'.1 5
      rw [r3, a1, u_le (by omega) (by omega)]
      omega
    | succ m ih =>
      intro L' σ' w a5 a1 a2 a4 hr
      have r3 : σ'.2.2.1 3 = σ.2.2.1 3 := w.2.2.1 3 (by decide)
      have hx' : Sq5 g σ' (L'.1 1) := Sq5_X w (by rw [a1]; exact hx)
      have hy' : Sq5 g σ' (L'.1 2) := Sq5_X w (by rw [a2]; exact hy)
      have h' := HQ_X h w
      have b5 : ∀ (L2 : LV) (σ2 : CS), AXf σ σ2 → L2.1 5 = L'.1 5 → L2.1 1 = L.1 1 → L2.1 2 = L.1 2 → uN (L2.1 4) ≤ 2048 → (∀ j, j < uN (L2.1 4) → Gv g (σ2.2.2.1 16 j)) → Tm (fun k => y_X0_chosen k 5 L2 σ2) (Va g t σ) := by
        intro L2 σ2 w2 z5 z1 z2 z4 zr
        refine Tm_suc (fun k => by rw [y_X0_chosen]) ?_
        refine ih _ _ w2 ?_ ?_ ?_ ?_ ?_
        · show uN (L2.1 5 + 1) + m = _
          rw [z5, u_inc (by omega)]; omega
        · exact z1
        · exact z2
        · exact z4
        · exact zr
      refine Tm_suc (fun k => by rw [y_X0_chosen]) ?_
      refine Tm_ocE (c_length h' hx'.1) ?_
      refine Tm_ite (fun c => absurd c ?_) (fun _ => ?_)
      · show ¬ nI (lnC (σ'.2.2.1 3) (L'.1 1)) ≤ L'.1 5
        rw [r3, a1, u_le (by omega) (by omega)]
        omega
      refine Tm_ite (fun _ => b2 _ _ w a4 hr) (fun c4 => ?_)
      rw [u_le (by decide) (by omega)] at c4
      have c4' : uN (L'.1 4) < 2048 := Nat.lt_of_not_le c4
      refine Tm_ocE (c_member h' hx'.1 hx'.2) ?_
      have gm := mbC_g (y := L'.1 5) h' hx'.1 hx'.2
      have b4 : ∀ (L2 : LV), Gv g (L2.1 6) → L2.1 5 = L'.1 5 → L2.1 1 = L.1 1 → L2.1 2 = L.1 2 → L2.1 4 = L'.1 4 → Tm (fun k => y_X0_chosen k 4 L2 σ') (Va g t σ) := by
        intro L2 z6 z5 z1 z2 z4
        refine Tm_suc (fun k => by rw [y_X0_chosen]) ?_
        refine Tm_ite (fun _ => ?_) (fun _ => ?_)
        · refine Tm_chk (u_in (by rw [z4]; exact c4') (by decide)) ?_
          have e4 : uN (L2.1 4 + 1) = uN (L'.1 4) + 1 := by rw [z4, u_inc (by omega)]
          refine b5 _ _ (AXf_t w (AXf_A _ (by decide) _ _)) ?_ ?_ ?_ ?_ ?_
          · exact z5
          · exact z1
          · exact z2
          · show uN (L2.1 4 + 1) ≤ 2048; omega
          · show ∀ j, j < uN (L2.1 4 + 1) → Gv g ((uA σ' 16 (L2.1 4).toNatClampNeg (L2.1 6)).2.2.1 16 j)
            rw [e4, z4, u_cl (by omega)]
            exact r16_p hr z6
        · refine b5 _ _ w ?_ ?_ ?_ ?_ ?_
          · exact z5
          · exact z1
          · exact z2
          · rw [z4]; exact a4
          · rw [z4]; exact hr
      have go3 : Tm (fun k => y_X0_chosen k 3 (lI L' 6 (mbC (σ'.2.2.1 3) (L'.1 1) (L'.1 5))) σ') (Va g t σ) := by
        refine Tm_suc (fun k => by rw [y_X0_chosen]) ?_
        refine b4 _ ?_ ?_ ?_ ?_ ?_
        · exact gm
        · rfl
        · exact a1
        · exact a2
        · rfl
      refine Tm_oc (c_placeOf h' hy' gm (by show uN 0 ≤ 4096; decide)) (fun r4 q4 => ?_)
      have e4 : r4.2 = σ' := q4.1
      rw [e4]
      refine Tm_ocE (c_length h' hy'.1) ?_
      refine Tm_ite (fun _ => go3) (fun _ => ?_)
      refine Tm_ocE (c_member h' hy'.1 hy'.2) ?_
      refine Tm_oc (c_same h' (mbC_g h' hy'.1 hy'.2) gm) (fun r9 q9 => ?_)
      have e9 : r9.2 = σ' := q9.1
      rw [e9]
      refine Tm_ite (fun _ => go3) (fun _ => ?_)
      refine b4 _ ?_ ?_ ?_ ?_ ?_
      · exact gm
      · rfl
      · exact a1
      · exact a2
      · rfl
  refine Tm_suc (fun k => by rw [y_X0_chosen]) ?_
  refine b1 (lnC (σ.2.2.1 3) (L.1 1)) _ σ (AXf_r σ) ?_ ?_ ?_ ?_ ?_
  · show 0 + _ = _; omega
  · rfl
  · rfl
  · show uN 0 ≤ 2048; decide
  · intro j hj; exact absurd hj (Nat.not_lt_zero j)
theorem c_isSubset (h : HQ g l t σ) (hx : Sq5 g σ (L.1 1)) (hy : Sq5 g σ (L.1 2)) : Tm (fun k => y_X0_isSubset k 0 L σ) (Qs σ) := by
  have la := lnC_lt (σ.2.2.1 3) (L.1 1)
  have ea : uN (nI (lnC (σ.2.2.1 3) (L.1 1))) = lnC (σ.2.2.1 3) (L.1 1) := u_n (by omega)
  have b4 : ∀ L' : LV, (L'.1 3 = 0 ∨ L'.1 3 = 1) → Tm (fun k => y_X0_isSubset k 4 L' σ) (Qs σ) := by
    intro L' d
    refine Tm_suc (fun k => by rw [y_X0_isSubset]) ?_
    refine Tm_chk d ?_
    exact Tm_some rfl
  have b3 : ∀ (m : Nat) (L' : LV), uN (L'.1 4) + m = lnC (σ.2.2.1 3) (L.1 1) → L'.1 1 = L.1 1 → L'.1 2 = L.1 2 → (L'.1 3 = 0 ∨ L'.1 3 = 1) → Tm (fun k => y_X0_isSubset k 3 L' σ) (Qs σ) := by
    intro m
    induction m with
    | zero =>
      intro L' a4 a1 a2 a3
      refine Tm_suc (fun k => by rw [y_X0_isSubset]) ?_
      refine Tm_ocE (c_length h (by show Gv g (L'.1 1); rw [a1]; exact hx.1)) ?_
      refine Tm_yes ?_ (b4 _ a3)
      show nI (lnC (σ.2.2.1 3) (L'.1 1)) ≤ L'.1 4
      rw [a1, u_le (by omega) (by omega)]
      omega
    | succ m ih =>
      intro L' a4 a1 a2 a3
      have hx' : Sq5 g σ (L'.1 1) := by rw [a1]; exact hx
      have hy' : Sq5 g σ (L'.1 2) := by rw [a2]; exact hy
      refine Tm_suc (fun k => by rw [y_X0_isSubset]) ?_
      refine Tm_ocE (c_length h hx'.1) ?_
      refine Tm_ite (fun _ => b4 _ a3) (fun _ => Tm_ite (fun _ => b4 _ a3) (fun _ => ?_))
      refine Tm_ocE (c_member h hx'.1 hx'.2) ?_
      refine Tm_oc (c_holds h hy' (mbC_g h hx'.1 hx'.2)) (fun r q => ?_)
      have e : r.2 = σ := q.1
      rw [e]
      refine ih _ ?_ ?_ ?_ ?_
      · show uN (L'.1 4 + 1) + m = _
        rw [u_inc (by omega)]; omega
      · exact a1
      · exact a2
      · exact q.2
  have b2 : ∀ L' : LV, (L'.1 100 = 0 ∨ L'.1 100 = 1) → L'.1 1 = L.1 1 → L'.1 2 = L.1 2 → Tm (fun k => y_X0_isSubset k 2 L' σ) (Qs σ) := by
    intro L' d a1 a2
    refine Tm_suc (fun k => by rw [y_X0_isSubset]) ?_
    refine b3 (lnC (σ.2.2.1 3) (L.1 1)) _ ?_ ?_ ?_ ?_
    · show 0 + _ = _; omega
    · exact a1
    · exact a2
    · exact d
  refine Tm_suc (fun k => by rw [y_X0_isSubset]) ?_
  refine Tm_ocE (c_length h hx.1) ?_
  refine Tm_ocE (c_length h hy.1) ?_
  refine Tm_ite (fun _ => ?_) (fun _ => b2 _ (Or.inr rfl) rfl rfl)
  refine Tm_suc (fun k => by rw [y_X0_isSubset]) ?_
  exact b2 _ (Or.inl rfl) rfl rfl
theorem str_k (k : kdC M x = 4) (c : uN x < 2147483648) : hdK (uN (M (uN x))) = 4 := by
  unfold kdC at k
  rw [if_pos c] at k
  exact k
theorem c_standsIn (h : HQ g l t σ) (hx : Gv g (L.1 1)) (hy : Gv g (L.1 2)) (kx : kdC (σ.2.2.1 3) (L.1 1) = 4) (ky : kdC (σ.2.2.1 3) (L.1 2) = 4) : Tm (fun k => y_X0_standsIn k 0 L σ) (Qs σ) := by
  have la := lnC_lt (σ.2.2.1 3) (L.1 1)
  have lb := lnC_lt (σ.2.2.1 3) (L.1 2)
  have ea : uN (nI (lnC (σ.2.2.1 3) (L.1 1))) = lnC (σ.2.2.1 3) (L.1 1) := u_n (by omega)
  have eb : uN (nI (lnC (σ.2.2.1 3) (L.1 2))) = lnC (σ.2.2.1 3) (L.1 2) := u_n (by omega)
  have b1 : ∀ (m : Nat) (L' : LV), uN (L'.1 5) + m = 5000 → L'.1 1 = L.1 1 → L'.1 2 = L.1 2 → L'.1 3 = nI (lnC (σ.2.2.1 3) (L.1 1)) → L'.1 4 = nI (lnC (σ.2.2.1 3) (L.1 2)) - nI (lnC (σ.2.2.1 3) (L.1 1)) → Tm (fun k => y_X0_standsIn k 1 L' σ) (Qs σ) := by
    have e2 : ∀ L' : LV, Tm (fun k => y_X0_standsIn k 2 L' σ) (Qs σ) := by
      intro L'
      refine Tm_suc (fun k => by rw [y_X0_standsIn]) ?_
      exact Tm_some rfl
    have key : ∀ z : Int32, uN z ≤ 5000 → ¬ (nI (lnC (σ.2.2.1 3) (L.1 2)) - nI (lnC (σ.2.2.1 3) (L.1 1)) < z) → uN z + lnC (σ.2.2.1 3) (L.1 1) ≤ lnC (σ.2.2.1 3) (L.1 2) := by
      intro z z1 c
      rcases Nat.lt_or_ge (lnC (σ.2.2.1 3) (L.1 2)) (lnC (σ.2.2.1 3) (L.1 1)) with q | q
      · exfalso
        have n := u_subn (x := nI (lnC (σ.2.2.1 3) (L.1 2))) (y := nI (lnC (σ.2.2.1 3) (L.1 1))) (by omega) (by omega)
        rw [i_lt, u_int, u_int z, if_neg (by omega), if_pos (by omega)] at c
        have := u_lt (nI (lnC (σ.2.2.1 3) (L.1 2)) - nI (lnC (σ.2.2.1 3) (L.1 1)))
        omega
      · have n : uN (nI (lnC (σ.2.2.1 3) (L.1 2)) - nI (lnC (σ.2.2.1 3) (L.1 1))) = lnC (σ.2.2.1 3) (L.1 2) - lnC (σ.2.2.1 3) (L.1 1) := by
          rw [u_sub (by omega), ea, eb]
        rw [u_ltn (by omega) (by omega), n] at c
        omega
    intro m
    induction m with
    | zero =>
      intro L' a5 a1 a2 a3 a4
      refine Tm_suc (fun k => by rw [y_X0_standsIn]) ?_
      rw [a4]
      refine Tm_ite (fun _ => e2 _) (fun c => absurd (key _ (by omega) c) (by omega))
    | succ m ih =>
      intro L' a5 a1 a2 a3 a4
      refine Tm_suc (fun k => by rw [y_X0_standsIn]) ?_
      rw [a4]
      refine Tm_ite (fun _ => e2 _) (fun c => ?_)
      have c' := key _ (by omega) c
      have b4 : ∀ L2 : LV, L2.1 5 = L'.1 5 → L2.1 1 = L.1 1 → L2.1 2 = L.1 2 → L2.1 3 = nI (lnC (σ.2.2.1 3) (L.1 1)) → L2.1 4 = L'.1 4 → Tm (fun k => y_X0_standsIn k 4 L2 σ) (Qs σ) := by
        intro L2 z5 z1 z2 z3 z4
        refine Tm_suc (fun k => by rw [y_X0_standsIn]) ?_
        refine Tm_ite (fun _ => Tm_some rfl) (fun _ => ?_)
        refine Tm_suc (fun k => by rw [y_X0_standsIn]) ?_
        refine ih _ ?_ ?_ ?_ ?_ ?_
        · show uN (L2.1 5 + 1) + m = _
          rw [z5, u_inc (by omega)]; omega
        · exact z1
        · exact z2
        · exact z3
        · exact z4.trans a4
      have b3 : ∀ (d : Nat) (L2 : LV), uN (L2.1 7) + d = lnC (σ.2.2.1 3) (L.1 1) → L2.1 5 = L'.1 5 → L2.1 1 = L.1 1 → L2.1 2 = L.1 2 → L2.1 3 = nI (lnC (σ.2.2.1 3) (L.1 1)) → L2.1 4 = L'.1 4 → Tm (fun k => y_X0_standsIn k 3 L2 σ) (Qs σ) := by
        intro d
        induction d with
        | zero =>
          intro L2 z7 z5 z1 z2 z3 z4
          refine Tm_suc (fun k => by rw [y_X0_standsIn]) ?_
          exact Tm_yes (by rw [z3, u_le (by omega) (by omega)]; omega) (b4 _ z5 z1 z2 z3 z4)
        | succ d jh =>
          intro L2 z7 z5 z1 z2 z3 z4
          refine Tm_suc (fun k => by rw [y_X0_standsIn]) ?_
          refine Tm_ite (fun q => absurd q (by rw [z3, u_le (by omega) (by omega)]; omega)) (fun _ => ?_)
          refine Tm_oc (c_byteAt h (by show Gv g (L2.1 1); rw [z1]; exact hx) ?_) (fun r2 q2 => ?_)
          · intro _
            show kdC (σ.2.2.1 3) (L2.1 1) = 4 ∧ uN (L2.1 7) < lnC (σ.2.2.1 3) (L2.1 1)
            rw [z1]
            exact ⟨kx, by omega⟩
          have e2' : r2.2 = σ := q2.1
          rw [e2']
          refine Tm_oc (c_byteAt h (by show Gv g (L2.1 2); rw [z2]; exact hy) ?_) (fun r3 q3 => ?_)
          · intro _
            show kdC (σ.2.2.1 3) (L2.1 2) = 4 ∧ uN (L2.1 5 + L2.1 7) < lnC (σ.2.2.1 3) (L2.1 2)
            rw [z2, z5, u_add (by omega)]
            exact ⟨ky, by omega⟩
          have e3' : r3.2 = σ := q3.1
          rw [e3']
          refine Tm_ite (fun _ => ?_) (fun _ => b4 _ z5 z1 z2 z3 z4)
          refine jh _ ?_ ?_ ?_ ?_ ?_ ?_
          · show uN (L2.1 7 + 1) + d = _
            rw [u_inc (by omega)]; omega
          · exact z5
          · exact z1
          · exact z2
          · exact z3
          · exact z4
      refine b3 (lnC (σ.2.2.1 3) (L.1 1)) _ ?_ ?_ ?_ ?_ ?_ ?_
      · show 0 + _ = _; omega
      · rfl
      · exact a1
      · exact a2
      · exact a3
      · rfl
  refine Tm_suc (fun k => by rw [y_X0_standsIn]) ?_
  refine Tm_ocE (c_length h hx) ?_
  refine Tm_ocE (c_length h hy) ?_
  refine b1 5000 _ ?_ ?_ ?_ ?_ ?_
  · rfl
  · rfl
  · rfl
  · rfl
  · rfl
/-- a value or an error, and nothing is changed -/
abbrev Qv (g : Nat → Prop) (σ : CS) : Int32 × CS → Prop := fun r => r.2 = σ ∧ (Gv g r.1 ∨ Rw r.1)
theorem kd_n {n : Nat} (hn : n < 8) (c : nI (kdC M x) = nI n) : kdC M x = n := by
  have q := kdC_lt M x
  rw [u_eq, u_n (by omega), u_n (by omega)] at c
  exact c
theorem c_contains (h : HQ g l t σ) (hx : Gv g (L.1 1)) (hy : Gv g (L.1 2)) : Tm (fun k => y_X0_contains k 0 L σ) (Qv g σ) := by
  have la := lnC_lt (σ.2.2.1 3) (L.1 1)
  have ea : uN (nI (lnC (σ.2.2.1 3) (L.1 1))) = lnC (σ.2.2.1 3) (L.1 1) := u_n (by omega)
  have err : Rw (-268435455) := by show 4026531840 ≤ uN (-268435455) ∧ ¬ uN (-268435455) % 16 = 0; decide
  have b6 : ∀ L' : LV, (Gv g (L'.1 100) ∨ Rw (L'.1 100)) → Tm (fun k => y_X0_contains k 6 L' σ) (Qv g σ) := by
    intro L' d
    refine Tm_suc (fun k => by rw [y_X0_contains]) ?_
    exact Tm_some ⟨rfl, d⟩
  have b8 : ∀ L' : LV, Tm (fun k => y_X0_contains k 8 L' σ) (Qv g σ) := by
    intro L'
    refine Tm_suc (fun k => by rw [y_X0_contains]) ?_
    exact Tm_oc c_truth (fun r q => Tm_some ⟨q.1, Or.inl (q.2 g)⟩)
  refine Tm_suc (fun k => by rw [y_X0_contains]) ?_
  refine Tm_ocE (c_kind h hx) ?_
  refine Tm_ite (fun c => ?_) (fun _ => Tm_ite (fun c => ?_) (fun _ => Tm_ite (fun c => ?_) (fun _ => ?_)))
  · have k4 := kd_n (n := 4) (by decide) c
    refine Tm_suc (fun k => by rw [y_X0_contains]) ?_
    refine Tm_ocE (c_kind h hy) ?_
    refine Tm_ite (fun d => ?_) (fun _ => ?_)
    · have k4' := kd_n (n := 4) (by decide) d
      refine Tm_oc (c_standsIn h hy hx k4' k4) (fun r q => ?_)
      have e : r.2 = σ := q
      rw [e]
      refine Tm_oc c_truth (fun r2 q2 => ?_)
      have e2 : r2.2 = σ := q2.1
      rw [e2]
      exact b6 _ (Or.inl (q2.2 g))
    · refine Tm_suc (fun k => by rw [y_X0_contains]) ?_
      exact b6 _ (Or.inr err)
  · have k5 := kd_n (n := 5) (by decide) c
    have hs : Sq5 g σ (L.1 1) := Sq5_k hx (by have z : kdC (σ.2.2.1 3) (L.1 1) = 5 := k5; omega)
    have b7 : ∀ (m : Nat) (L' : LV), uN (L'.1 4) + m = lnC (σ.2.2.1 3) (L.1 1) → L'.1 1 = L.1 1 → L'.1 2 = L.1 2 → Tm (fun k => y_X0_contains k 7 L' σ) (Qv g σ) := by
      intro m
      induction m with
      | zero =>
        intro L' a4 a1 a2
        refine Tm_suc (fun k => by rw [y_X0_contains]) ?_
        refine Tm_ocE (c_length h (by show Gv g (L'.1 1); rw [a1]; exact hx)) ?_
        refine Tm_yes ?_ (b8 _)
        show nI (lnC (σ.2.2.1 3) (L'.1 1)) ≤ L'.1 4
        rw [a1, u_le (by omega) (by omega)]
        omega
      | succ m ih =>
        intro L' a4 a1 a2
        have hs' : Sq5 g σ (L'.1 1) := by rw [a1]; exact hs
        refine Tm_suc (fun k => by rw [y_X0_contains]) ?_
        refine Tm_ocE (c_length h hs'.1) ?_
        refine Tm_ite (fun _ => b8 _) (fun _ => Tm_ite (fun _ => Tm_ite (fun _ => b8 _) (fun _ => ?_)) (fun _ => b8 _))
        refine Tm_ocE (c_member h hs'.1 hs'.2) ?_
        refine Tm_oc (c_same h (mbC_g h hs'.1 hs'.2) (by show Gv g (L'.1 2); rw [a2]; exact hy)) (fun r q => ?_)
        have e : r.2 = σ := q.1
        rw [e]
        refine ih _ ?_ ?_ ?_
        · show uN (L'.1 4 + 1) + m = _
          rw [u_inc (by omega)]; omega
        · exact a1
        · exact a2
    refine Tm_suc (fun k => by rw [y_X0_contains]) ?_
    refine b7 (lnC (σ.2.2.1 3) (L.1 1)) _ ?_ ?_ ?_
    · show 0 + _ = _; omega
    · rfl
    · rfl
  · have k6 := kd_n (n := 6) (by decide) c
    have hs : Sq5 g σ (L.1 1) := Sq5_k hx (by have z : kdC (σ.2.2.1 3) (L.1 1) = 6 := k6; omega)
    refine Tm_suc (fun k => by rw [y_X0_contains]) ?_
    refine Tm_oc (c_holds h hs hy) (fun r q => ?_)
    have e : r.2 = σ := q.1
    rw [e]
    exact Tm_oc c_truth (fun r q => Tm_some ⟨q.1, Or.inl (q.2 g)⟩)
  · refine Tm_suc (fun k => by rw [y_X0_contains]) ?_
    exact Tm_some ⟨rfl, Or.inr err⟩
theorem c_compared (h : HQ g l t σ) (hx : Gv g (L.1 2)) (hy : Gv g (L.1 3)) : Tm (fun k => y_X0_compared k 0 L σ) (Qv g σ) := by
  have b1 : ∀ L' : LV, Tm (fun k => y_X0_compared k 1 L' σ) (Qv g σ) := by
    intro L'
    refine Tm_suc (fun k => by rw [y_X0_compared]) ?_
    exact Tm_some ⟨rfl, Or.inr (by show 4026531840 ≤ uN (-268435455) ∧ ¬ uN (-268435455) % 16 = 0; decide)⟩
  have b8 : ∀ L' : LV, Tm (fun k => y_X0_compared k 8 L' σ) (Qv g σ) := by
    intro L'
    refine Tm_suc (fun k => by rw [y_X0_compared]) ?_
    exact Tm_oc c_truth (fun r q => Tm_some ⟨q.1, Or.inl (q.2 g)⟩)
  have b10 : ∀ L' : LV, Tm (fun k => y_X0_compared k 10 L' σ) (Qv g σ) := by
    intro L'
    refine Tm_suc (fun k => by rw [y_X0_compared]) ?_
    exact Tm_oc c_truth (fun r q => Tm_some ⟨q.1, Or.inl (q.2 g)⟩)
  have b12 : ∀ L' : LV, Tm (fun k => y_X0_compared k 12 L' σ) (Qv g σ) := by
    intro L'
    refine Tm_suc (fun k => by rw [y_X0_compared]) ?_
    exact Tm_oc c_truth (fun r q => Tm_some ⟨q.1, Or.inl (q.2 g)⟩)
  have b14 : ∀ L' : LV, Tm (fun k => y_X0_compared k 14 L' σ) (Qv g σ) := by
    intro L'
    refine Tm_suc (fun k => by rw [y_X0_compared]) ?_
    exact Tm_oc c_truth (fun r q => Tm_some ⟨q.1, Or.inl (q.2 g)⟩)
  have b2 : ∀ L' : LV, L'.1 2 = L.1 2 → L'.1 3 = L.1 3 → Tm (fun k => y_X0_compared k 2 L' σ) (Qv g σ) := by
    intro L' a2 a3
    refine Tm_suc (fun k => by rw [y_X0_compared]) ?_
    refine Tm_oc (c_compare h (by show Gv g (L'.1 2); rw [a2]; exact hx) (by show Gv g (L'.1 3); rw [a3]; exact hy)) (fun r q => ?_)
    have e : r.2 = σ := q
    rw [e]
    refine Tm_ite (fun _ => ?_) (fun _ => Tm_ite (fun _ => ?_) (fun _ => Tm_ite (fun _ => ?_) (fun _ => ?_)))
    · refine Tm_suc (fun k => by rw [y_X0_compared]) ?_
      refine Tm_ite (fun _ => ?_) (fun _ => b8 _)
      refine Tm_suc (fun k => by rw [y_X0_compared]) ?_
      exact b8 _
    · refine Tm_suc (fun k => by rw [y_X0_compared]) ?_
      refine Tm_ite (fun _ => ?_) (fun _ => b10 _)
      refine Tm_suc (fun k => by rw [y_X0_compared]) ?_
      exact b10 _
    · refine Tm_suc (fun k => by rw [y_X0_compared]) ?_
      refine Tm_ite (fun _ => ?_) (fun _ => b12 _)
      refine Tm_suc (fun k => by rw [y_X0_compared]) ?_
      exact b12 _
    · refine Tm_suc (fun k => by rw [y_X0_compared]) ?_
      refine Tm_ite (fun _ => ?_) (fun _ => b14 _)
      refine Tm_suc (fun k => by rw [y_X0_compared]) ?_
      exact b14 _
  refine Tm_suc (fun k => by rw [y_X0_compared]) ?_
  refine Tm_ocE (c_kind h hx) ?_
  refine Tm_ocE (c_kind h hy) ?_
  exact Tm_ite (fun _ => Tm_ite (fun _ => b2 _ rfl rfl) (fun _ => Tm_ite (fun _ => b2 _ rfl rfl) (fun _ => b1 _))) (fun _ => b1 _)
end CRU
