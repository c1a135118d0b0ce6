/-! The class: a member written. -/
section CSD
variable {g g' g2 : Nat → Prop} {l l' l2 : List Nat} {t t' t2 : Nat} {σ σ' σ2 : CS} {L : LV} {x y i : Int32} {M M' : Nat → Int32}
theorem c_withMember (h : HQ g l t σ) (hf : Gv g (L.1 1)) (hx : Gv g (L.1 2)) (hv : Gv g (L.1 3)) : Tm (fun k => y_X0_withMember k 0 L σ) (Va g t σ) := by
  have ll := lnC_lt (σ.2.2.1 3) (L.1 1)
  have ef : uN (nI (lnC (σ.2.2.1 3) (L.1 1))) = lnC (σ.2.2.1 3) (L.1 1) := u_n (by omega)
  have b4 : ∀ L' : LV, Tm (fun k => y_X0_withMember k 4 L' σ) (Va g t σ) := by
    intro L'
    refine Tm_suc (fun k => by rw [y_X0_withMember]) ?_
    exact Tm_some (Va_e h (AXf_r σ) eKind)
  have b6 : ∀ L' : LV, Tm (fun k => y_X0_withMember k 6 L' σ) (Va g t σ) := by
    intro L'
    refine Tm_suc (fun k => by rw [y_X0_withMember]) ?_
    exact Tm_some (Va_e h (AXf_r σ) ePlace)
  have b2 : ∀ L' : LV, Tm (fun k => y_X0_withMember k 2 L' σ) (Va g t σ) := by
    intro L'
    refine Tm_suc (fun k => by rw [y_X0_withMember]) ?_
    refine Tm_suc (fun k => by rw [y_X0_withMember]) ?_
    exact Tm_yes rfl (b4 _)
  have b11 : kdC (σ.2.2.1 3) (L.1 1) = 5 → ∀ (m : Nat) (L' : LV) (σ' : CS), AXf σ σ' → L'.1 3 = L.1 3 → L'.1 7 = nI (lnC (σ.2.2.1 3) (L.1 1)) → 1 ≤ uN (L'.1 6) → uN (L'.1 6) ≤ 1000 → (uN (L'.1 8) + m = uN (L'.1 6) ∨ (m = 0 ∧ uN (L'.1 6) ≤ uN (L'.1 8))) → uN (L'.1 8) ≤ 1000 → lnC (σ.2.2.1 3) (L.1 1) ≤ uN (L'.1 8) → (∀ j, j < uN (L'.1 8) → Gv g (σ'.2.2.1 16 j)) → Tm (fun k => y_X0_withMember k 11 L' σ') (Va g t σ) := by
    intro k5
    have rc := row_c h hf (by omega) (by omega)
    intro m
    induction m with
    | zero =>
      intro L' σ' w a3 a7 p1 p2 a8 p8 pn hr
      have e1 : uN (L'.1 6 - 1) = uN (L'.1 6) - 1 := by rw [u_sub (by show 1 ≤ _; omega)]; rfl
      refine Tm_suc (fun k => by rw [y_X0_withMember]) ?_
      refine Tm_yes (by rw [u_le (by omega) (by omega)]; omega) ?_
      refine Tm_suc (fun k => by rw [y_X0_withMember]) ?_
      refine Tm_chk (u_in (by omega) (by decide)) ?_
      have mx : uN (if L'.1 7 < L'.1 6 then L'.1 6 else L'.1 7) ≤ uN (L'.1 8) := by
        split
        · omega
        · rw [a7]; omega
      refine Tm_oc (mt16 h (AXf_t w (AXf_A σ' (k := 16) (by decide) (L'.1 6 - 1).toNatClampNeg (L'.1 3))) rfl ?_ ?_) (fun r z => Tm_some z)
      · show uN (if L'.1 7 < L'.1 6 then L'.1 6 else L'.1 7) ≤ 2048
        omega
      · show ∀ j, j < uN (if L'.1 7 < L'.1 6 then L'.1 6 else L'.1 7) → Gv g (upd (σ'.2.2.1 16) (L'.1 6 - 1).toNatClampNeg (L'.1 3) j)
        intro j hj
        by_cases c : j = (L'.1 6 - 1).toNatClampNeg
        · rw [c, upd_same, a3]; exact hv
        · rw [upd_other c]; exact hr j (by omega)
    | succ m ih =>
      intro L' σ' w a3 a7 p1 p2 a8 p8 pn hr
      have e8 : uN (L'.1 8 + 1) = uN (L'.1 8) + 1 := u_inc (by omega)
      refine Tm_suc (fun k => by rw [y_X0_withMember]) ?_
      refine Tm_ite (fun c => absurd c (by rw [u_le (by omega) (by omega)]; omega)) (fun _ => ?_)
      refine Tm_chk (u_in (by omega) (by decide)) ?_
      refine ih _ _ (AXf_t w (AXf_A _ (by decide) _ _)) ?_ ?_ ?_ ?_ ?_ ?_ ?_ ?_
      · exact a3
      · exact a7
      · exact p1
      · exact p2
      · left; show uN (L'.1 8 + 1) + m = uN (L'.1 6); omega
      · show uN (L'.1 8 + 1) ≤ 1000; omega
      · show _ ≤ uN (L'.1 8 + 1); omega
      · show ∀ j, j < uN (L'.1 8 + 1) → Gv g ((uA σ' 16 (L'.1 8).toNatClampNeg (-2147483648)).2.2.1 16 j)
        rw [e8, u_cl (by omega)]
        exact r16_p hr (Gv_om g)
  have b9 : kdC (σ.2.2.1 3) (L.1 1) = 5 → ∀ L' : LV, L'.1 1 = L.1 1 → L'.1 3 = L.1 3 → L'.1 7 = nI (lnC (σ.2.2.1 3) (L.1 1)) → 1 ≤ uN (L'.1 6) → uN (L'.1 6) < 2147483648 → Tm (fun k => y_X0_withMember k 9 L' σ) (Va g t σ) := by
    intro k5 L' a1 a3 a7 p1 p2
    have rc := row_c h hf (by omega) (by omega)
    refine Tm_suc (fun k => by rw [y_X0_withMember]) ?_
    refine Tm_ite (fun c => ?_) (fun _ => Tm_some (Va_e h (AXf_r σ) eSize))
    rw [u_le (by omega) (by decide)] at c
    have c' : uN (L'.1 6) ≤ 1000 := c
    have sf : Sq5 g σ (L'.1 1) := by rw [a1]; exact Sq5_k hf (by omega)
    refine Tm_suc (fun k => by rw [y_X0_withMember]) ?_
    refine Tm_oc (c_load0x h sf (by show uN 0 < _; decide) (by show uN (L'.1 7) ≤ lnC (σ.2.2.1 3) (L'.1 1); rw [a1, a7]; omega) (by show uN 0 ≤ _; decide) (fun j hj => absurd hj (Nat.not_lt_zero j))) (fun r q => ?_)
    obtain ⟨f, f1, f2, f3, f4⟩ := q
    have f5 := f4 (by show uN (L'.1 1) < _; rw [a1]; exact rc.1) (by show uN 0 ≤ uN (L'.1 7); exact Nat.zero_le _) (by show uN (L'.1 7) - 0 ≤ 2048 - 0; rw [a7]; omega)
    have f6 : uN r.1 = 0 + (uN (L'.1 7) - 0) := f5
    rw [a7, ef] at f6
    rw [f1]
    have fr : ∀ j, j < lnC (σ.2.2.1 3) (L.1 1) → Gv g (f j) := fun j hj => f3 j (by omega)
    refine b11 k5 (if uN (L'.1 6) ≤ lnC (σ.2.2.1 3) (L.1 1) then 0 else uN (L'.1 6) - lnC (σ.2.2.1 3) (L.1 1)) _ _ (AXf_F σ (k := 16) (by decide) f) ?_ ?_ ?_ ?_ ?_ ?_ ?_ ?_
    · exact a3
    · exact a7
    · exact p1
    · exact c'
    · show uN (L'.1 7) + _ = uN (L'.1 6) ∨ (_ ∧ uN (L'.1 6) ≤ uN (L'.1 7))
      rw [a7, ef]
      split
      · right; exact ⟨rfl, by omega⟩
      · left; omega
    · show uN (L'.1 7) ≤ 1000
      rw [a7]; omega
    · show _ ≤ uN (L'.1 7)
      rw [a7, ef]; exact Nat.le_refl _
    · show ∀ j, j < uN (L'.1 7) → Gv g (f j)
      rw [a7, ef]; exact fr
  have b7 : ∀ L' : LV, L'.1 1 = L.1 1 → L'.1 3 = L.1 3 → L'.1 7 = nI (lnC (σ.2.2.1 3) (L.1 1)) → 1 ≤ uN (L'.1 6) → uN (L'.1 6) < 2147483648 → ((L'.1 4 = 4 ∧ uN (L'.1 6) ≤ 4096 ∧ kdC (σ.2.2.1 3) (L.1 1) = 4 ∧ kdC (σ.2.2.1 3) (L.1 3) = 4 ∧ lnC (σ.2.2.1 3) (L.1 3) = 1) ∨ (¬ L'.1 4 = 4 ∧ kdC (σ.2.2.1 3) (L.1 1) = 5)) → Tm (fun k => y_X0_withMember k 7 L' σ) (Va g t σ) := by
    intro L' a1 a3 a7 p1 p2 k45
    refine Tm_suc (fun k => by rw [y_X0_withMember]) ?_
    refine Tm_ite (fun c => ?_) (fun c => ?_)
    · obtain ⟨_, q1, q2, q3, q4⟩ := k45.resolve_right (fun z => z.1 c)
      have e1 : uN (L'.1 6 - 1) = uN (L'.1 6) - 1 := by rw [u_sub (by show 1 ≤ _; omega)]; rfl
      refine Tm_oc (cb15 h (AXf_r σ) (by show Gv g (L'.1 1); rw [a1]; exact hf) (by show kdC (σ.2.2.1 3) (L'.1 1) = 4; rw [a1]; exact q2) (by show 0 + uN (L'.1 7) ≤ lnC (σ.2.2.1 3) (L'.1 1); rw [a1, a7]; omega) (by show uN 0 ≤ 8192; decide)) (fun r z => ?_)
      have r3 : r.2.2.2.1 3 = σ.2.2.1 3 := z.1.2.2.1 3 (by decide)
      refine Tm_oc (c_byteAt (HQ_X h z.1) (by show Gv g (L'.1 3); rw [a3]; exact hv) (fun _ => ?_)) (fun r2 z2 => ?_)
      · show kdC (r.2.2.2.1 3) (L'.1 3) = 4 ∧ uN 0 < lnC (r.2.2.2.1 3) (L'.1 3)
        rw [r3, a3, q4]
        exact ⟨q3, by decide⟩
      · have e2 : r2.2 = r.2 := z2.1
        rw [e2]
        refine Tm_chk (u_in (by omega) (by decide)) ?_
        refine Tm_oc (mk15 h (AXf_t z.1 (AXf_A _ (k := 15) (by decide) _ _)) rfl (fun _ => ?_)) (fun r z => Tm_some z)
        show uN (if L'.1 7 < L'.1 6 then L'.1 6 else L'.1 7) ≤ 8192
        split
        · omega
        · rw [a7]; omega
    · have k5 := (k45.resolve_left (fun z => c z.1)).2
      refine Tm_suc (fun k => by rw [y_X0_withMember]) ?_
      refine Tm_ite (fun _ => b9 k5 _ a1 a3 a7 p1 p2) (fun _ => Tm_ite (fun _ => Tm_some ?_) (fun _ => b9 k5 _ a1 a3 a7 p1 p2))
      rw [a1]
      exact Va_g h (AXf_r σ) hf
  have b1 : ∀ L' : LV, L'.1 1 = L.1 1 → L'.1 2 = L.1 2 → L'.1 3 = L.1 3 → ((L'.1 4 = 4 ∧ kdC (σ.2.2.1 3) (L.1 1) = 4 ∧ kdC (σ.2.2.1 3) (L.1 3) = 4 ∧ lnC (σ.2.2.1 3) (L.1 3) = 1) ∨ (¬ L'.1 4 = 4 ∧ kdC (σ.2.2.1 3) (L.1 1) = 5)) → Tm (fun k => y_X0_withMember k 1 L' σ) (Va g t σ) := by
    intro L' a1 a2 a3 k45
    refine Tm_suc (fun k => by rw [y_X0_withMember]) ?_
    refine Tm_suc (fun k => by rw [y_X0_withMember]) ?_
    refine Tm_no (by show ¬ (1 : Int32) = 0; decide) ?_
    refine Tm_ocE (c_kind h (by show Gv g (L'.1 2); rw [a2]; exact hx)) ?_
    refine Tm_ite (fun _ => ?_) (fun _ => b4 _)
    refine Tm_suc (fun k => by rw [y_X0_withMember]) ?_
    refine Tm_ocE (c_clampedE h (by show Gv g (L'.1 2); rw [a2]; exact hx)) ?_
    refine Tm_ocE (c_length h (by show Gv g (L'.1 1); rw [a1]; exact hf)) ?_
    have eL : lnC (σ.2.2.1 3) (L'.1 1) = lnC (σ.2.2.1 3) (L.1 1) := by rw [a1]
    refine Tm_ite (fun _ => b6 _) (fun c1 => ?_)
    have c1' : ¬ clC (σ.2.2.1 3) (L'.1 2) < 1 := c1
    have uc := u_lt (clC (σ.2.2.1 3) (L'.1 2))
    have p1 : 1 ≤ uN (clC (σ.2.2.1 3) (L'.1 2)) ∧ uN (clC (σ.2.2.1 3) (L'.1 2)) < 2147483648 := by
      rw [i_lt, u_int (clC (σ.2.2.1 3) (L'.1 2))] at c1'
      have z : ¬ (if uN (clC (σ.2.2.1 3) (L'.1 2)) < 2147483648 then (uN (clC (σ.2.2.1 3) (L'.1 2)) : Int) else (uN (clC (σ.2.2.1 3) (L'.1 2)) : Int) - 4294967296) < 1 := c1'
      split at z <;> omega
    refine Tm_ite (fun c4 => Tm_ite (fun c5 => ?_) (fun _ => b6 _)) (fun c4 => ?_)
    · have c5' : clC (σ.2.2.1 3) (L'.1 2) ≤ nI (lnC (σ.2.2.1 3) (L'.1 1)) + 1 := c5
      rw [eL] at c5'
      have en : uN (nI (lnC (σ.2.2.1 3) (L.1 1)) + 1) = lnC (σ.2.2.1 3) (L.1 1) + 1 := by rw [u_inc (by omega), ef]
      rw [u_le p1.2 (by omega), en] at c5'
      have q := k45.resolve_right (fun z => z.1 c4)
      refine b7 _ ?_ ?_ ?_ ?_ ?_ (Or.inl ⟨c4, ?_, q.2.1, q.2.2.1, q.2.2.2⟩)
      · exact a1
      · exact a3
      · show nI (lnC (σ.2.2.1 3) (L'.1 1)) = _; rw [a1]
      · exact p1.1
      · exact p1.2
      · show uN (clC (σ.2.2.1 3) (L'.1 2)) ≤ 4096; omega
    · have q := k45.resolve_left (fun z => c4 z.1)
      refine b7 _ ?_ ?_ ?_ ?_ ?_ (Or.inr ⟨c4, q.2⟩)
      · exact a1
      · exact a3
      · show nI (lnC (σ.2.2.1 3) (L'.1 1)) = _; rw [a1]
      · exact p1.1
      · exact p1.2
  refine Tm_suc (fun k => by rw [y_X0_withMember]) ?_
  refine Tm_ocE (c_kind h hf) ?_
  refine Tm_ite (fun c => ?_) (fun _ => Tm_ite (fun c => ?_) (fun _ => b2 _))
  · have k5 : kdC (σ.2.2.1 3) (L.1 1) = 5 := kd_n (n := 5) (by decide) c
    refine b1 _ rfl rfl rfl (Or.inr ⟨?_, k5⟩)
    show ¬ nI (kdC (σ.2.2.1 3) (L.1 1)) = 4
    rw [k5]; decide
  · have k4 : kdC (σ.2.2.1 3) (L.1 1) = 4 := kd_n (n := 4) (by decide) c
    refine Tm_ocE (c_kind h hv) ?_
    refine Tm_ite (fun d => ?_) (fun _ => b2 _)
    have v4 : kdC (σ.2.2.1 3) (L.1 3) = 4 := kd_n (n := 4) (by decide) d
    refine Tm_ocE (c_length h hv) ?_
    refine Tm_ite (fun e => ?_) (fun _ => b2 _)
    have lv := lnC_lt (σ.2.2.1 3) (L.1 3)
    have e' : nI (lnC (σ.2.2.1 3) (L.1 3)) = 1 := e
    rw [u_eq, u_n (by omega)] at e'
    refine b1 _ rfl rfl rfl (Or.inl ⟨?_, k4, v4, e'⟩)
    show nI (kdC (σ.2.2.1 3) (L.1 1)) = 4
    rw [k4]; rfl
end CSD
