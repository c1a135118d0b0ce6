section JnS366
/-! The class: a member written. -/
section CSD
variable {g g' g2 : Nat → Prop} {l l' l2 : List Nat} {t t' t2 : Nat} {σ σ' σ2 : CS} {L : LV} {x y i : Int32} {M M' : Nat → Int32}
theorem c_withMember (h : HQ g l t σ) (hf : Gv g (L.1 1)) (hx : Gv g (L.1 2)) (hv : Gv g (L.1 3)) : Tm (fun k => y_X0_withMember k 0 L σ) (Va g t σ) := by
  have ll := lnC_lt (σ.2.2.1 3) (L.1 1)
  have ef : uN (nI (lnC (σ.2.2.1 3) (L.1 1))) = lnC (σ.2.2.1 3) (L.1 1) := u_n (by omega)
  have b4 : ∀ L' : LV, Tm (fun k => y_X0_withMember k 4 L' σ) (Va g t σ) := by
    intro L'
    refine Tm_suc (fun k => by rw [y_X0_withMember]) ?_
    exact Tm_some (Va_e h (AXf_r σ) eKind)
  have b6 : ∀ L' : LV, Tm (fun k => y_X0_withMember k 6 L' σ) (Va g t σ) := by
    intro L'
    refine Tm_suc (fun k => by rw [y_X0_withMember]) ?_
    exact Tm_some (Va_e h (AXf_r σ) ePlace)
  have b2 : ∀ L' : LV, Tm (fun k => y_X0_withMember k 2 L' σ) (Va g t σ) := by
    intro L'
    refine Tm_suc (fun k => by rw [y_X0_withMember]) ?_
    refine Tm_suc (fun k => by rw [y_X0_withMember]) ?_
    exact Tm_yes rfl (b4 _)
  have b11 : kdC (σ.2.2.1 3) (L.1 1) = 5 → ∀ (m : Nat) (L' : LV) (σ' : CS), AXf σ σ' → L'.1 3 = L.1 3 → L'.1 7 = nI (lnC (σ.2.2.1 3) (L.1 1)) → 1 ≤ uN (L'.1 6) → uN (L'.1 6) ≤ 1000 → (uN (L'.1 8) + m = uN (L'.1 6) ∨ (m = 0 ∧ uN (L'.1 6) ≤ uN (L'.1 8))) → uN (L'.1 8) ≤ 1000 → lnC (σ.2.2.1 3) (L.1 1) ≤ uN (L'.1 8) → (∀ j, j < uN (L'.1 8) → Gv g (σ'.2.2.1 16 j)) → Tm (fun k => y_X0_withMember k 11 L' σ') (Va g t σ) := by
    intro k5
    have rc := row_c h hf (by omega) (by omega)
    intro m
    induction m with
    | zero =>
      intro L' σ' w a3 a7 p1 p2 a8 p8 pn hr
      have e1 : uN (L'.1 6 - 1) = uN (L'.1 6) - 1 := by rw [u_sub (by show 1 ≤ _; omega)]; rfl
      refine Tm_suc (fun k => by rw [y_X0_withMember]) ?_
      refine Tm_yes (by rw [u_le (by omega) (by omega)]; omega) ?_
      refine Tm_suc (fun k => by rw [y_X0_withMember]) ?_
      refine Tm_chk (u_in (by omega) (by decide)) ?_
      have mx : uN (if L'.1 7 < L'.1 6 then L'.1 6 else L'.1 7) ≤ uN (L'.1 8) := by
        split
        · omega
        · rw [a7]; omega
      refine Tm_oc (mt16 h (AXf_t w (AXf_A σ' (k := 16) (by decide) (L'.1 6 - 1).toNatClampNeg (L'.1 3))) rfl ?_ ?_) (fun r z => Tm_some z)
      · show uN (if L'.1 7 < L'.1 6 then L'.1 6 else L'.1 7) ≤ 2048
        omega
      · show ∀ j, j < uN (if L'.1 7 < L'.1 6 then L'.1 6 else L'.1 7) → Gv g (upd (σ'.2.2.1 16) (L'.1 6 - 1).toNatClampNeg (L'.1 3) j)
        intro j hj
        by_cases c : j = (L'.1 6 - 1).toNatClampNeg
        · rw [c, upd_same, a3]; exact hv
        · rw [upd_other c]; exact hr j (by omega)
    | succ m ih =>
      intro L' σ' w a3 a7 p1 p2 a8 p8 pn hr
      have e8 : uN (L'.1 8 + 1) = uN (L'.1 8) + 1 := u_inc (by omega)
      refine Tm_suc (fun k => by rw [y_X0_withMember]) ?_
      refine Tm_ite (fun c => absurd c (by rw [u_le (by omega) (by omega)]; omega)) (fun _ => ?_)
      refine Tm_chk (u_in (by omega) (by decide)) ?_
      refine ih _ _ (AXf_t w (AXf_A _ (by decide) _ _)) ?_ ?_ ?_ ?_ ?_ ?_ ?_ ?_
      · exact a3
      · exact a7
      · exact p1
      · exact p2
      · left; show uN (L'.1 8 + 1) + m = uN (L'.1 6); omega
      · show uN (L'.1 8 + 1) ≤ 1000; omega
      · show _ ≤ uN (L'.1 8 + 1); omega
      · show ∀ j, j < uN (L'.1 8 + 1) → Gv g ((uA σ' 16 (L'.1 8).toNatClampNeg (-2147483648)).2.2.1 16 j)
        rw [e8, u_cl (by omega)]
        exact r16_p hr (Gv_om g)
  have b9 : kdC (σ.2.2.1 3) (L.1 1) = 5 → ∀ L' : LV, L'.1 1 = L.1 1 → L'.1 3 = L.1 3 → L'.1 7 = nI (lnC (σ.2.2.1 3) (L.1 1)) → 1 ≤ uN (L'.1 6) → uN (L'.1 6) < 2147483648 → Tm (fun k => y_X0_withMember k 9 L' σ) (Va g t σ) := by
    intro k5 L' a1 a3 a7 p1 p2
    have rc := row_c h hf (by omega) (by omega)
    refine Tm_suc (fun k => by rw [y_X0_withMember]) ?_
    refine Tm_ite (fun c => ?_) (fun _ => Tm_some (Va_e h (AXf_r σ) eSize))
    rw [u_le (by omega) (by decide)] at c
    have c' : uN (L'.1 6) ≤ 1000 := c
    have sf : Sq5 g σ (L'.1 1) := by rw [a1]; exact Sq5_k hf (by omega)
    refine Tm_suc (fun k => by rw [y_X0_withMember]) ?_
    refine Tm_oc (c_load0x h sf (by show uN 0 < _; decide) (by show uN (L'.1 7) ≤ lnC (σ.2.2.1 3) (L'.1 1); rw [a1, a7]; omega) (by show uN 0 ≤ _; decide) (fun j hj => absurd hj (Nat.not_lt_zero j))) (fun r q => ?_)
    obtain ⟨f, f1, f2, f3, f4⟩ := q
    have f5 := f4 (by show uN (L'.1 1) < _; rw [a1]; exact rc.1) (by show uN 0 ≤ uN (L'.1 7); exact Nat.zero_le _) (by show uN (L'.1 7) - 0 ≤ 2048 - 0; rw [a7]; omega)
    have f6 : uN r.1 = 0 + (uN (L'.1 7) - 0) := f5
    rw [a7, ef] at f6
    rw [f1]
    have fr : ∀ j, j < lnC (σ.2.2.1 3) (L.1 1) → Gv g (f j) := fun j hj => f3 j (by omega)
    refine b11 k5 (if uN (L'.1 6) ≤ lnC (σ.2.2.1 3) (L.1 1) then 0 else uN (L'.1 6) - lnC (σ.2.2.1 3) (L.1 1)) _ _ (AXf_F σ (k := 16) (by decide) f) ?_ ?_ ?_ ?_ ?_ ?_ ?_ ?_
    · exact a3
    · exact a7
    · exact p1
    · exact c'
    · show uN (L'.1 7) + _ = uN (L'.1 6) ∨ (_ ∧ uN (L'.1 6) ≤ uN (L'.1 7))
      rw [a7, ef]
      split
      · right; exact ⟨rfl, by omega⟩
      · left; omega
    · show uN (L'.1 7) ≤ 1000
      rw [a7]; omega
    · show _ ≤ uN (L'.1 7)
      rw [a7, ef]; exact Nat.le_refl _
    · show ∀ j, j < uN (L'.1 7) → Gv g (f j)
      rw [a7, ef]; exact fr
  have b7 : ∀ L' : LV, L'.1 1 = L.1 1 → L'.1 3 = L.1 3 → L'.1 7 = nI (lnC (σ.2.2.1 3) (L.1 1)) → 1 ≤ uN (L'.1 6) → uN (L'.1 6) < 2147483648 → ((L'.1 4 = 4 ∧ uN (L'.1 6) ≤ 4096 ∧ kdC (σ.2.2.1 3) (L.1 1) = 4 ∧ kdC (σ.2.2.1 3) (L.1 3) = 4 ∧ lnC (σ.2.2.1 3) (L.1 3) = 1) ∨ (¬ L'.1 4 = 4 ∧ kdC (σ.2.2.1 3) (L.1 1) = 5)) → Tm (fun k => y_X0_withMember k 7 L' σ) (Va g t σ) := by
    intro L' a1 a3 a7 p1 p2 k45
    refine Tm_suc (fun k => by rw [y_X0_withMember]) ?_
    refine Tm_ite (fun c => ?_) (fun c => ?_)
    · obtain ⟨_, q1, q2, q3, q4⟩ := k45.resolve_right (fun z => z.1 c)
      have e1 : uN (L'.1 6 - 1) = uN (L'.1 6) - 1 := by rw [u_sub (by show 1 ≤ _; omega)]; rfl
      refine Tm_oc (cb15 h (AXf_r σ) (by show Gv g (L'.1 1); rw [a1]; exact hf) (by show kdC (σ.2.2.1 3) (L'.1 1) = 4; rw [a1]; exact q2) (by show 0 + uN (L'.1 7) ≤ lnC (σ.2.2.1 3) (L'.1 1); rw [a1, a7]; omega) (by show uN 0 ≤ 8192; decide)) (fun r z => ?_)
      have r3 : r.2.2.2.1 3 = σ.2.2.1 3 := z.1.2.2.1 3 (by decide)
      refine Tm_oc (c_byteAt (HQ_X h z.1) (by show Gv g (L'.1 3); rw [a3]; exact hv) (fun _ => ?_)) (fun r2 z2 => ?_)
      · show kdC (r.2.2.2.1 3) (L'.1 3) = 4 ∧ uN 0 < lnC (r.2.2.2.1 3) (L'.1 3)
        rw [r3, a3, q4]
        exact ⟨q3, by decide⟩
      · have e2 : r2.2 = r.2 := z2.1
        rw [e2]
        refine Tm_chk (u_in (by omega) (by decide)) ?_
        refine Tm_oc (mk15 h (AXf_t z.1 (AXf_A _ (k := 15) (by decide) _ _)) rfl (fun _ => ?_)) (fun r z => Tm_some z)
        show uN (if L'.1 7 < L'.1 6 then L'.1 6 else L'.1 7) ≤ 8192
        split
        · omega
        · rw [a7]; omega
    · have k5 := (k45.resolve_left (fun z => c z.1)).2
      refine Tm_suc (fun k => by rw [y_X0_withMember]) ?_
      refine Tm_ite (fun _ => b9 k5 _ a1 a3 a7 p1 p2) (fun _ => Tm_ite (fun _ => Tm_some ?_) (fun _ => b9 k5 _ a1 a3 a7 p1 p2))
      rw [a1]
      exact Va_g h (AXf_r σ) hf
  have b1 : ∀ L' : LV, L'.1 1 = L.1 1 → L'.1 2 = L.1 2 → L'.1 3 = L.1 3 → ((L'.1 4 = 4 ∧ kdC (σ.2.2.1 3) (L.1 1) = 4 ∧ kdC (σ.2.2.1 3) (L.1 3) = 4 ∧ lnC (σ.2.2.1 3) (L.1 3) = 1) ∨ (¬ L'.1 4 = 4 ∧ kdC (σ.2.2.1 3) (L.1 1) = 5)) → Tm (fun k => y_X0_withMember k 1 L' σ) (Va g t σ) := by
    intro L' a1 a2 a3 k45
    refine Tm_suc (fun k => by rw [y_X0_withMember]) ?_
    refine Tm_suc (fun k => by rw [y_X0_withMember]) ?_
    refine Tm_no (by show ¬ (1 : Int32) = 0; decide) ?_
    refine Tm_ocE (c_kind h (by show Gv g (L'.1 2); rw [a2]; exact hx)) ?_
    refine Tm_ite (fun _ => ?_) (fun _ => b4 _)
    refine Tm_suc (fun k => by rw [y_X0_withMember]) ?_
    refine Tm_ocE (c_clampedE h (by show Gv g (L'.1 2); rw [a2]; exact hx)) ?_
    refine Tm_ocE (c_length h (by show Gv g (L'.1 1); rw [a1]; exact hf)) ?_
    have eL : lnC (σ.2.2.1 3) (L'.1 1) = lnC (σ.2.2.1 3) (L.1 1) := by rw [a1]
    refine Tm_ite (fun _ => b6 _) (fun c1 => ?_)
    have c1' : ¬ clC (σ.2.2.1 3) (L'.1 2) < 1 := c1
    have uc := u_lt (clC (σ.2.2.1 3) (L'.1 2))
    have p1 : 1 ≤ uN (clC (σ.2.2.1 3) (L'.1 2)) ∧ uN (clC (σ.2.2.1 3) (L'.1 2)) < 2147483648 := by
      rw [i_lt, u_int (clC (σ.2.2.1 3) (L'.1 2))] at c1'
      have z : ¬ (if uN (clC (σ.2.2.1 3) (L'.1 2)) < 2147483648 then (uN (clC (σ.2.2.1 3) (L'.1 2)) : Int) else (uN (clC (σ.2.2.1 3) (L'.1 2)) : Int) - 4294967296) < 1 := c1'
      split at z <;> omega
    refine Tm_ite (fun c4 => Tm_ite (fun c5 => ?_) (fun _ => b6 _)) (fun c4 => ?_)
    · have c5' : clC (σ.2.2.1 3) (L'.1 2) ≤ nI (lnC (σ.2.2.1 3) (L'.1 1)) + 1 := c5
      rw [eL] at c5'
      have en : uN (nI (lnC (σ.2.2.1 3) (L.1 1)) + 1) = lnC (σ.2.2.1 3) (L.1 1) + 1 := by rw [u_inc (by omega), ef]
      rw [u_le p1.2 (by omega), en] at c5'
      have q := k45.resolve_right (fun z => z.1 c4)
      refine b7 _ ?_ ?_ ?_ ?_ ?_ (Or.inl ⟨c4, ?_, q.2.1, q.2.2.1, q.2.2.2⟩)
      · exact a1
      · exact a3
      · show nI (lnC (σ.2.2.1 3) (L'.1 1)) = _; rw [a1]
      · exact p1.1
      · exact p1.2
      · show uN (clC (σ.2.2.1 3) (L'.1 2)) ≤ 4096; omega
    · have q := k45.resolve_left (fun z => c4 z.1)
      refine b7 _ ?_ ?_ ?_ ?_ ?_ (Or.inr ⟨c4, q.2⟩)
      · exact a1
      · exact a3
      · show nI (lnC (σ.2.2.1 3) (L'.1 1)) = _; rw [a1]
      · exact p1.1
      · exact p1.2
  refine Tm_suc (fun k => by rw [y_X0_withMember]) ?_
  refine Tm_ocE (c_kind h hf) ?_
  refine Tm_ite (fun c => ?_) (fun _ => Tm_ite (fun c => ?_) (fun _ => b2 _))
  · have k5 : kdC (σ.2.2.1 3) (L.1 1) = 5 := kd_n (n := 5) (by decide) c
    refine b1 _ rfl rfl rfl (Or.inr ⟨?_, k5⟩)
    show ¬ nI (kdC (σ.2.2.1 3) (L.1 1)) = 4
    rw [k5]; decide
  · have k4 : kdC (σ.2.2.1 3) (L.1 1) = 4 := kd_n (n := 4) (by decide) c
    refine Tm_ocE (c_kind h hv) ?_
    refine Tm_ite (fun d => ?_) (fun _ => b2 _)
    have v4 : kdC (σ.2.2.1 3) (L.1 3) = 4 := kd_n (n := 4) (by decide) d
    refine Tm_ocE (c_length h hv) ?_
    refine Tm_ite (fun e => ?_) (fun _ => b2 _)
    have lv := lnC_lt (σ.2.2.1 3) (L.1 3)
    have e' : nI (lnC (σ.2.2.1 3) (L.1 3)) = 1 := e
    rw [u_eq, u_n (by omega)] at e'
    refine b1 _ rfl rfl rfl (Or.inl ⟨?_, k4, v4, e'⟩)
    show nI (kdC (σ.2.2.1 3) (L.1 1)) = 4
    rw [k4]; rfl
end CSD
end JnS366
section JnS367
/-! The class: a pair, a map with a pair. -/
section CSE
variable {g g' g2 : Nat → Prop} {l l' l2 : List Nat} {t t' t2 : Nat} {σ σ' σ2 : CS} {L : LV} {x y i : Int32} {M M' : Nat → Int32}
theorem MpV_G (h : HQ g l t σ) (a : Ga g t σ g' l' t' σ') (m : MpV g σ x) : MpV g' σ' x ∧ lnC (σ'.2.2.1 3) x = lnC (σ.2.2.1 3) x := by
  have e : σ'.2.2.1 3 (uN x) = σ.2.2.1 3 (uN x) := a.2.2.1 _ (HQ_c h (Gv_c m.1 m.2.1).2).1
  refine ⟨⟨Gv_sg m.1 a.2.1, m.2.1, by rw [kdC_ga h a m.1]; exact m.2.2.1, by rw [e]; exact m.2.2.2⟩, ?_⟩
  unfold lnC
  rw [if_pos m.2.1, if_pos m.2.1, e]
theorem c_pair (h : HQ g l t σ) (hx : Gv g (L.1 1)) (hy : Gv g (L.1 2)) : Tm (fun k => y_X0_pair k 0 L σ) (fun r => ∃ (g' : Nat → Prop) (l' : List Nat) (t' : Nat), Ga g t σ g' l' t' r.2 ∧ r.2.2.2.1 16 = σ.2.2.1 16 ∧ (Gv g' r.1 ∨ Rw r.1)) := by
  have w : AXf σ (uA (uA σ 17 (0 : Int32).toNatClampNeg (L.1 1)) 17 (1 : Int32).toNatClampNeg (L.1 2)) := AXf_t (AXf_A σ (k := 17) (by decide) _ _) (AXf_A _ (k := 17) (by decide) _ _)
  refine Tm_suc (fun k => by rw [y_X0_pair]) ?_
  refine Tm_chk (by decide) ?_
  refine Tm_chk (by decide) ?_
  refine Tm_oc (c_makeRow17 (HQ_X h w) (Or.inl rfl) (by decide) rfl (fun _ _ => ⟨by show 0 + 2 ≤ 8; decide, fun j hj => ?_⟩)) (fun r q => ?_)
  · have hj' : j < 2 := hj
    show Gv g (upd (upd (σ.2.2.1 17) 0 (L.1 1)) 1 (L.1 2) (0 + j))
    rw [Nat.zero_add]
    by_cases c : j = 1
    · rw [c, upd_same]; exact hy
    · rw [upd_other c, show j = 0 from by omega, upd_same]; exact hx
  · obtain ⟨g1, l1, t1, M1, e, q1, q2, q3, q4, q5⟩ := q
    refine Tm_some ⟨g1, l1, t1, Ga_t (Ga_X h w) ⟨q1, q2, ?_, q4, ?_⟩, ?_, q5.imp (fun z => z.1) id⟩
    · rw [e]; exact q3
    · rw [e]; exact AWf_V (VWc_h _ _ _)
    · rw [e]; rfl
theorem c_withPair (h : HQ g l t σ) (hf : MpV g σ (L.1 1)) (hx : Gv g (L.1 2)) (hv : Gv g (L.1 3)) : Tm (fun k => y_X0_withPair k 0 L σ) (Va g t σ) := by
  have ll := lnC_lt (σ.2.2.1 3) (L.1 1)
  have rc := row_c h hf.1 (by have := hf.2.2.1; omega) (by have := hf.2.2.1; omega)
  have b1 : ∀ (L' : LV) (g' : Nat → Prop) (l' : List Nat) (t' : Nat) (σ' : CS), Ga g t σ g' l' t' σ' → L'.1 1 = L.1 1 → uN (L'.1 5) < 2147483648 → uN (L'.1 6) ≤ 2048 → (∀ j, j < uN (L'.1 6) → Gv g' (σ'.2.2.1 16 j)) → Tm (fun k => y_X0_withPair k 1 L' σ') (Va g t σ) := by
    intro L' g' l' t' σ' hG a1 a5 a6 hr
    have mp := MpV_G h hG hf
    have mp' : MpV g' σ' (L'.1 1) := by rw [a1]; exact mp.1
    have lw := lnC_lt (σ'.2.2.1 3) (L'.1 1)
    refine Tm_suc (fun k => by rw [y_X0_withPair]) ?_
    refine Tm_ocE (c_length hG.1 mp'.1) ?_
    refine Tm_oc (c_load0 hG.1 (MpV_s mp') a5 (by show uN (nI (lnC (σ'.2.2.1 3) (L'.1 1))) ≤ lnC (σ'.2.2.1 3) (L'.1 1); rw [u_n (by omega)]; exact Nat.le_refl _) a6 hr) (fun r q => ?_)
    obtain ⟨f, f1, f2, f3⟩ := q
    rw [f1]
    exact Tm_oc (mk16 (n := 0) hG.1 (AXf_F σ' (k := 16) (by decide) f) (Or.inr rfl) rfl rfl f2 f3) (fun r z => Tm_some (Va_t hG z))
  refine Tm_suc (fun k => by rw [y_X0_withPair]) ?_
  refine Tm_oc (c_pairsFrom h hf hx) (fun r1 q1 => ?_)
  have e1 : r1.2 = σ := q1.1
  have p1 : uN r1.1 ≤ lnC (σ.2.2.1 3) (L.1 1) := q1.2
  rw [e1]
  refine Tm_oc (c_pairsTo h hf hx q1.2) (fun r2 q2 => ?_)
  have e2 : r2.2 = σ := q2.1
  have p2 : uN r2.1 ≤ lnC (σ.2.2.1 3) (L.1 1) := q2.2.2
  rw [e2]
  refine Tm_oc (c_load0x h (MpV_s hf) (by show uN 0 < _; decide) p1 (by show uN 0 ≤ _; decide) (fun j hj => absurd hj (Nat.not_lt_zero j))) (fun r3 q3 => ?_)
  obtain ⟨f, f1, f2, f3, f4⟩ := q3
  have f5 : uN r3.1 = 0 + (uN r1.1 - 0) := f4 rc.1 (Nat.zero_le _) (by show uN r1.1 - 0 ≤ 2048 - 0; omega)
  rw [f1]
  have w := AXf_F σ (k := 16) (by decide) f
  refine Tm_ite (fun _ => ?_) (fun _ => ?_)
  · refine b1 _ g l t _ (Ga_X h w) ?_ ?_ ?_ ?_
    · rfl
    · show uN r2.1 < _; omega
    · exact f2
    · exact f3
  · refine Tm_oc (c_pair (HQ_X h w) hx hv) (fun r5 q5 => ?_)
    obtain ⟨g5, l5, t5, G5, e16, v5⟩ := q5
    have GG := Ga_t (Ga_X h w) G5
    refine Tm_chk (u_in (by omega) (by decide)) ?_
    refine Tm_chk (u_in (by omega) (by decide)) ?_
    have w6 := AXf_A r5.2 (k := 16) (by decide) r3.1.toNatClampNeg r5.1
    have G6 := Ga_t GG (Ga_X G5.1 w6)
    have rn : (uA r5.2 16 r3.1.toNatClampNeg r5.1).2.2.1 16 r3.1.toNatClampNeg = r5.1 := by
      show upd (r5.2.2.2.1 16) r3.1.toNatClampNeg r5.1 r3.1.toNatClampNeg = r5.1
      exact upd_same
    rw [rn]
    refine Tm_oc c_isError (fun r8 q8 => ?_)
    have e8 : r8.2 = uA r5.2 16 r3.1.toNatClampNeg r5.1 := q8.1.1
    rw [e8]
    refine Tm_ite (fun c => ?_) (fun c => ?_)
    · have g5v : Gv g5 r5.1 := v5.resolve_right (q8.2.1 c)
      have e6 : uN (r3.1 + 1) = uN r3.1 + 1 := u_inc (by omega)
      refine Tm_suc (fun k => by rw [y_X0_withPair]) ?_
      refine b1 _ g5 l5 t5 _ G6 ?_ ?_ ?_ ?_
      · rfl
      · show uN r2.1 < _; omega
      · show uN (r3.1 + 1) ≤ 2048; omega
      · show ∀ j, j < uN (r3.1 + 1) → Gv g5 ((uA r5.2 16 r3.1.toNatClampNeg r5.1).2.2.1 16 j)
        rw [e6, u_cl (by omega)]
        refine r16_p (fun j hj => ?_) g5v
        rw [e16]
        exact Gv_sg (f3 j hj) G5.2.1
    · refine Tm_chk (u_in (by omega) (by decide)) ?_
      rw [rn]
      refine Tm_some ⟨g5, l5, t5, G6, v5⟩
end CSE
end JnS367
section JnS368
/-! The class: a map with images. -/
section CSF
variable {g g' g2 : Nat → Prop} {l l' l2 : List Nat} {t t' t2 : Nat} {σ σ' σ2 : CS} {L : LV} {x y i : Int32} {M M' : Nat → Int32}
theorem lnC_ga (h : HQ g l t σ) (a : Ga g t σ g' l' t' σ') (hx : Gv g x) : lnC (σ'.2.2.1 3) x = lnC (σ.2.2.1 3) x := by
  unfold lnC
  split
  · rename_i c
    rw [a.2.2.1 _ (HQ_c h (Gv_c hx c).2).1]
  · rfl
theorem Sq5_G (h : HQ g l t σ) (a : Ga g t σ g' l' t' σ') (q : Sq5 g σ x) : Sq5 g' σ' x := ⟨Gv_sg q.1 a.2.1, by rw [kdC_ga h a q.1]; exact q.2⟩
theorem c_withImages (h : HQ g l t σ) (hf : MpV g σ (L.1 1)) (hx : Gv g (L.1 2)) (hv : Sq5 g σ (L.1 3)) : Tm (fun k => y_X0_withImages k 0 L σ) (Va g t σ) := by
  have ll := lnC_lt (σ.2.2.1 3) (L.1 1)
  have lv := lnC_lt (σ.2.2.1 3) (L.1 3)
  have b5 : ∀ (L' : LV) (g' : Nat → Prop) (l' : List Nat) (t' : Nat) (σ' : CS), Ga g t σ g' l' t' σ' → L'.1 1 = L.1 1 → uN (L'.1 5) < 2147483648 → uN (L'.1 7) ≤ 2048 → (∀ j, j < uN (L'.1 7) → Gv g' (σ'.2.2.1 16 j)) → Tm (fun k => y_X0_withImages k 5 L' σ') (Va g t σ) := by
    intro L' g' l' t' σ' hG a1 a5 a6 hr
    have mp := MpV_G h hG hf
    have mp' : MpV g' σ' (L'.1 1) := by rw [a1]; exact mp.1
    have lw := lnC_lt (σ'.2.2.1 3) (L'.1 1)
    refine Tm_suc (fun k => by rw [y_X0_withImages]) ?_
    refine Tm_ocE (c_length hG.1 mp'.1) ?_
    refine Tm_oc (c_load0 hG.1 (MpV_s mp') a5 (by show uN (nI (lnC (σ'.2.2.1 3) (L'.1 1))) ≤ lnC (σ'.2.2.1 3) (L'.1 1); rw [u_n (by omega)]; exact Nat.le_refl _) a6 hr) (fun r q => ?_)
    obtain ⟨f, f1, f2, f3⟩ := q
    rw [f1]
    exact Tm_oc (mk16 (n := 0) hG.1 (AXf_F σ' (k := 16) (by decide) f) (Or.inr rfl) rfl rfl f2 f3) (fun r z => Tm_some (Va_t hG z))
  have b4 : ∀ (m : Nat) (L' : LV) (g' : Nat → Prop) (l' : List Nat) (t' : Nat) (σ' : CS), Ga g t σ g' l' t' σ' → L'.1 1 = L.1 1 → L'.1 2 = L.1 2 → L'.1 3 = L.1 3 → uN (L'.1 8) + m = lnC (σ.2.2.1 3) (L.1 3) → uN (L'.1 5) < 2147483648 → uN (L'.1 7) ≤ 2048 → (∀ j, j < uN (L'.1 7) → Gv g' (σ'.2.2.1 16 j)) → Tm (fun k => y_X0_withImages k 4 L' σ') (Va g t σ) := by
    intro m
    induction m with
    | zero =>
      intro L' g' l' t' σ' hG a1 a2 a3 a8 a5 a7 hr
      have e := lnC_ga h hG hv.1
      refine Tm_suc (fun k => by rw [y_X0_withImages]) ?_
      refine Tm_ocE (c_length hG.1 (by show Gv g' (L'.1 3); rw [a3]; exact (Sq5_G h hG hv).1)) ?_
      refine Tm_yes ?_ (b5 _ _ _ _ _ hG a1 a5 a7 hr)
      show nI (lnC (σ'.2.2.1 3) (L'.1 3)) ≤ L'.1 8
      rw [a3, e, u_le (by rw [u_n (by omega)]; omega) (by omega), u_n (by omega)]
      omega
    | succ m ih =>
      intro L' g' l' t' σ' hG a1 a2 a3 a8 a5 a7 hr
      have sv : Sq5 g' σ' (L'.1 3) := by rw [a3]; exact Sq5_G h hG hv
      refine Tm_suc (fun k => by rw [y_X0_withImages]) ?_
      refine Tm_ocE (c_length hG.1 sv.1) ?_
      refine Tm_ite (fun _ => b5 _ _ _ _ _ hG a1 a5 a7 hr) (fun _ => Tm_ite (fun _ => b5 _ _ _ _ _ hG a1 a5 a7 hr) (fun c => ?_))
      rw [u_le (by decide) (by omega)] at c
      have c7 : uN (L'.1 7) < 2048 := Nat.lt_of_not_le c
      refine Tm_ocE (c_member hG.1 sv.1 sv.2) ?_
      refine Tm_oc (c_pair hG.1 (by show Gv g' (L'.1 2); rw [a2]; exact Gv_sg hx hG.2.1) (mbC_g hG.1 sv.1 sv.2)) (fun r5 q5 => ?_)
      obtain ⟨g5, l5, t5, G5, e16, v5⟩ := q5
      have GG := Ga_t hG G5
      refine Tm_chk (u_in c7 (by decide)) ?_
      refine Tm_chk (u_in c7 (by decide)) ?_
      have w6 := AXf_A r5.2 (k := 16) (by decide) (L'.1 7).toNatClampNeg r5.1
      have G6 := Ga_t GG (Ga_X G5.1 w6)
      have rn : (uA r5.2 16 (L'.1 7).toNatClampNeg r5.1).2.2.1 16 (L'.1 7).toNatClampNeg = r5.1 := by
        show upd (r5.2.2.2.1 16) (L'.1 7).toNatClampNeg r5.1 (L'.1 7).toNatClampNeg = r5.1
        exact upd_same
      rw [rn]
      refine Tm_oc c_isError (fun r8 q8 => ?_)
      have e8 : r8.2 = uA r5.2 16 (L'.1 7).toNatClampNeg r5.1 := q8.1.1
      rw [e8]
      refine Tm_ite (fun c => ?_) (fun c => ?_)
      · have g5v : Gv g5 r5.1 := v5.resolve_right (q8.2.1 c)
        have e7 : uN (L'.1 7 + 1) = uN (L'.1 7) + 1 := u_inc (by omega)
        refine Tm_suc (fun k => by rw [y_X0_withImages]) ?_
        refine ih _ g5 l5 t5 _ G6 ?_ ?_ ?_ ?_ ?_ ?_ ?_
        · exact a1
        · exact a2
        · exact a3
        · show uN (L'.1 8 + 1) + m = _
          rw [u_inc (by omega)]; omega
        · exact a5
        · show uN (L'.1 7 + 1) ≤ 2048; omega
        · show ∀ j, j < uN (L'.1 7 + 1) → Gv g5 ((uA r5.2 16 (L'.1 7).toNatClampNeg r5.1).2.2.1 16 j)
          rw [e7, u_cl (by omega)]
          refine r16_p (fun j hj => ?_) g5v
          rw [e16]
          exact Gv_sg (hr j hj) G5.2.1
      · refine Tm_chk (u_in c7 (by decide)) ?_
        rw [rn]
        exact Tm_some ⟨g5, l5, t5, G6, v5⟩
  have b2 : ∀ L' : LV, L'.1 1 = L.1 1 → L'.1 2 = L.1 2 → L'.1 3 = L.1 3 → uN (L'.1 4) ≤ lnC (σ.2.2.1 3) (L.1 1) → uN (L'.1 5) ≤ 4096 → Tm (fun k => y_X0_withImages k 2 L' σ) (Va g t σ) := by
    intro L' a1 a2 a3 a4 a5
    refine Tm_suc (fun k => by rw [y_X0_withImages]) ?_
    refine Tm_ite (fun _ => ?_) (fun _ => Tm_some (Va_e h (AXf_r σ) eSize))
    refine Tm_suc (fun k => by rw [y_X0_withImages]) ?_
    refine Tm_oc (c_load0 h (by show Sq5 g σ (L'.1 1); rw [a1]; exact MpV_s hf) (by show uN 0 < _; decide) (by show uN (L'.1 4) ≤ lnC (σ.2.2.1 3) (L'.1 1); rw [a1]; exact a4) (by show uN 0 ≤ _; decide) (fun j hj => absurd hj (Nat.not_lt_zero j))) (fun r q => ?_)
    obtain ⟨f, f1, f2, f3⟩ := q
    rw [f1]
    refine b4 (lnC (σ.2.2.1 3) (L.1 3)) _ g l t _ (Ga_X h (AXf_F σ (k := 16) (by decide) f)) ?_ ?_ ?_ ?_ ?_ ?_ ?_
    · exact a1
    · exact a2
    · exact a3
    · show 0 + _ = _; omega
    · show uN (L'.1 5) < _; omega
    · exact f2
    · exact f3
  have b1 : ∀ (m : Nat) (L' : LV), uN (L'.1 7) + m = 4097 → L'.1 1 = L.1 1 → L'.1 2 = L.1 2 → L'.1 3 = L.1 3 → uN (L'.1 4) ≤ lnC (σ.2.2.1 3) (L.1 1) → uN (L'.1 5) ≤ 4096 → Tm (fun k => y_X0_withImages k 1 L' σ) (Va g t σ) := by
    intro m
    induction m with
    | zero =>
      intro L' a7 a1 a2 a3 a4 a5
      refine Tm_suc (fun k => by rw [y_X0_withImages]) ?_
      exact Tm_yes (by rw [u_le (by omega) (by omega)]; omega) (b2 _ a1 a2 a3 a4 a5)
    | succ m ih =>
      intro L' a7 a1 a2 a3 a4 a5
      have sf : Sq5 g σ (L'.1 1) := by rw [a1]; exact MpV_s hf
      refine Tm_suc (fun k => by rw [y_X0_withImages]) ?_
      refine Tm_ite (fun _ => b2 _ a1 a2 a3 a4 a5) (fun _ => ?_)
      refine Tm_ocE (c_member h sf.1 sf.2) ?_
      refine Tm_oc (c_size h (mbC_g h sf.1 sf.2)) (fun r q => ?_)
      have e : r.2 = σ := q.1
      rw [e]
      refine ih _ ?_ ?_ ?_ ?_ ?_ ?_
      · show uN (L'.1 7 + 1) + m = _
        rw [u_inc (by omega)]; omega
      · exact a1
      · exact a2
      · exact a3
      · exact a4
      · exact a5
  refine Tm_suc (fun k => by rw [y_X0_withImages]) ?_
  refine Tm_oc (c_pairsFrom h hf hx) (fun r1 q1 => ?_)
  have e1 : r1.2 = σ := q1.1
  have p1 : uN r1.1 ≤ lnC (σ.2.2.1 3) (L.1 1) := q1.2
  rw [e1]
  refine Tm_oc (c_pairsTo h hf hx q1.2) (fun r2 q2 => ?_)
  have e2 : r2.2 = σ := q2.1
  have p2 : uN r2.1 ≤ lnC (σ.2.2.1 3) (L.1 1) := q2.2.2
  rw [e2]
  refine Tm_oc (c_size h hf.1) (fun r3 q3 => ?_)
  have e3 : r3.2 = σ := q3.1
  rw [e3]
  refine Tm_oc (c_size h hv.1) (fun r4 q4 => ?_)
  have e4 : r4.2 = σ := q4.1
  rw [e4]
  refine Tm_ocE (c_length h hv.1) ?_
  refine Tm_oc (c_size h hx) (fun r6 q6 => ?_)
  have e6 : r6.2 = σ := q6.1
  rw [e6]
  refine b1 (4097 - uN r1.1) _ ?_ ?_ ?_ ?_ ?_ ?_
  · show uN r1.1 + _ = _; omega
  · rfl
  · rfl
  · rfl
  · exact p1
  · show uN r2.1 ≤ 4096; omega
end CSF
end JnS368
section JnS369
/-! The class: parts written. -/
section CSG
variable {g : Nat → Prop} {l : List Nat} {t : Nat} {σ : CS} {L : LV}
theorem c_written (h : HQ g l t σ) (hf : Gv g (L.1 2)) (hx : Gv g (L.1 3)) (hy : Gv g (L.1 4)) (hv : Gv g (L.1 5)) : Tm (fun k => y_X0_written k 0 L σ) (Va g t σ) := by
  have b5 : ∀ (L' : LV) (σ' : CS), Va g t σ (L'.1 100, σ') → Tm (fun k => y_X0_written k 5 L' σ') (Va g t σ) := by
    intro L' σ' d
    refine Tm_suc (fun k => by rw [y_X0_written]) ?_
    exact Tm_some d
  have b7 : ∀ (L' : LV) (σ' : CS), Va g t σ (L'.1 100, σ') → Tm (fun k => y_X0_written k 7 L' σ') (Va g t σ) := by
    intro L' σ' d
    refine Tm_suc (fun k => by rw [y_X0_written]) ?_
    exact Tm_some d
  have b6 : ∀ (L' : LV), Tm (fun k => y_X0_written k 6 L' σ) (Va g t σ) := by
    intro L'
    refine Tm_suc (fun k => by rw [y_X0_written]) ?_
    exact b7 _ _ (Va_e h (AXf_r σ) eKind)
  refine Tm_suc (fun k => by rw [y_X0_written]) ?_
  refine Tm_ite (fun _ => ?_) (fun _ => Tm_ite (fun _ => ?_) (fun _ => ?_))
  · refine Tm_suc (fun k => by rw [y_X0_written]) ?_
    refine Tm_oc (c_isMap h hf) (fun r q => ?_)
    have e : r.2 = σ := q.1.1
    rw [e]
    refine Tm_ite (fun _ => ?_) (fun c => ?_)
    · refine Tm_suc (fun k => by rw [y_X0_written]) ?_
      exact Tm_oc (c_withMember h hf hx hv) (fun r z => b5 _ _ z)
    · exact Tm_oc (c_withPair h ⟨hf, q.2 c⟩ hx hv) (fun r z => b5 _ _ z)
  · refine Tm_suc (fun k => by rw [y_X0_written]) ?_
    exact Tm_oc (c_withSlice h hf hx hy hv) (fun r z => Tm_some z)
  · refine Tm_suc (fun k => by rw [y_X0_written]) ?_
    refine Tm_oc (c_isMap h hf) (fun r q => ?_)
    have e : r.2 = σ := q.1.1
    rw [e]
    refine Tm_ite (fun _ => b6 _) (fun c => ?_)
    refine Tm_ocE (c_kind h hv) ?_
    refine Tm_ite (fun d => ?_) (fun _ => b6 _)
    have k6 : kdC (σ.2.2.1 3) (L.1 5) = 6 := kd_n (n := 6) (by decide) d
    exact Tm_oc (c_withImages h ⟨hf, q.2 c⟩ hx (Sq5_k hv (by show 5 ≤ kdC (σ.2.2.1 3) (L.1 5); omega))) (fun r z => b7 _ _ z)
end CSG
end JnS369
section JnS370
/-! The class: what is left of a value, subsets. -/
section CSH
variable {g g' g2 : Nat → Prop} {l l' l2 : List Nat} {t t' t2 : Nat} {σ σ' σ2 : CS} {L : LV} {x y i : Int32} {M M' : Nat → Int32}
theorem c_remainder (h : HQ g l t σ) (hf : Gv g (L.1 1)) (kk : kdC (σ.2.2.1 3) (L.1 1) = 4 ∨ kdC (σ.2.2.1 3) (L.1 1) = 5 ∨ kdC (σ.2.2.1 3) (L.1 1) = 6) (n1 : 1 ≤ lnC (σ.2.2.1 3) (L.1 1)) : Tm (fun k => y_X0_remainder k 0 L σ) (Va g t σ) := by
  have ll := lnC_lt (σ.2.2.1 3) (L.1 1)
  have el : uN (nI (lnC (σ.2.2.1 3) (L.1 1))) = lnC (σ.2.2.1 3) (L.1 1) := u_n (by omega)
  have u1 : uN 1 = 1 := rfl
  have b7 : ∀ (L' : LV) (σ' : CS), Va g t σ (L'.1 100, σ') → Tm (fun k => y_X0_remainder k 7 L' σ') (Va g t σ) := by
    intro L' σ' d
    refine Tm_suc (fun k => by rw [y_X0_remainder]) ?_
    exact Tm_some d
  have b4 : ∀ L' : LV, L'.1 1 = L.1 1 → uN (L'.1 4) ≤ uN (L'.1 100) → uN (L'.1 100) ≤ lnC (σ.2.2.1 3) (L.1 1) → Tm (fun k => y_X0_remainder k 4 L' σ) (Va g t σ) := by
    intro L' a1 a4 a5
    have es : uN (L'.1 100 - L'.1 4) = uN (L'.1 100) - uN (L'.1 4) := u_sub a4
    have hf' : Gv g (L'.1 1) := by rw [a1]; exact hf
    refine Tm_suc (fun k => by rw [y_X0_remainder]) ?_
    refine Tm_ocE (c_kind h hf') ?_
    refine Tm_ite (fun c4 => ?_) (fun c4 => ?_)
    · have k4 : kdC (σ.2.2.1 3) (L'.1 1) = 4 := kd_n (n := 4) (by decide) c4
      refine Tm_oc (cb15 h (AXf_r σ) hf' k4 ?_ (by show uN 0 ≤ 8192; decide)) (fun r q => ?_)
      · show uN (L'.1 4) + uN (L'.1 100 - L'.1 4) ≤ lnC (σ.2.2.1 3) (L'.1 1)
        rw [a1]; omega
      · refine Tm_oc (mk15 h q.1 rfl (fun _ => ?_)) (fun r z => Tm_some z)
        show uN (L'.1 100 - L'.1 4) ≤ 8192
        omega
    · have k5 : 5 ≤ kdC (σ.2.2.1 3) (L'.1 1) := by
        rcases kk with z | z | z
        · exact absurd (by show nI (kdC (σ.2.2.1 3) (L'.1 1)) = 4; rw [a1, z]; rfl) c4
        · rw [a1]; omega
        · rw [a1]; omega
      have sx : Sq5 g σ (L'.1 1) := Sq5_k hf' k5
      refine Tm_suc (fun k => by rw [y_X0_remainder]) ?_
      refine Tm_oc (c_load0 h sx (by show uN (L'.1 4) < _; omega) (by show uN (L'.1 100) ≤ lnC (σ.2.2.1 3) (L'.1 1); rw [a1]; exact a5) (by show uN 0 ≤ _; decide) (fun j hj => absurd hj (Nat.not_lt_zero j))) (fun r q => ?_)
      obtain ⟨f, f1, f2, f3⟩ := q
      rw [f1]
      refine Tm_ite (fun _ => ?_) (fun _ => ?_)
      · exact Tm_oc (mk16 (n := 0) h (AXf_F σ (k := 16) (by decide) f) (Or.inr rfl) rfl rfl f2 f3) (fun r z => b7 _ _ z)
      · refine Tm_suc (fun k => by rw [y_X0_remainder]) ?_
        exact Tm_oc (mt16 h (AXf_F σ (k := 16) (by decide) f) rfl f2 f3) (fun r z => b7 _ _ z)
  refine Tm_suc (fun k => by rw [y_X0_remainder]) ?_
  refine Tm_ocE (c_length h hf) ?_
  refine Tm_ite (fun c => ?_) (fun c => ?_)
  · refine Tm_suc (fun k => by rw [y_X0_remainder]) ?_
    refine Tm_yes c ?_
    refine b4 _ ?_ ?_ ?_
    · rfl
    · exact Nat.zero_le _
    · show uN (nI (lnC (σ.2.2.1 3) (L.1 1)) - 1) ≤ _
      rw [u_sub (by omega), el]; omega
  · refine Tm_suc (fun k => by rw [y_X0_remainder]) ?_
    refine Tm_suc (fun k => by rw [y_X0_remainder]) ?_
    refine Tm_no c ?_
    refine Tm_suc (fun k => by rw [y_X0_remainder]) ?_
    refine b4 _ ?_ ?_ ?_
    · rfl
    · show uN 1 ≤ uN (nI (lnC (σ.2.2.1 3) (L.1 1)))
      omega
    · show uN (nI (lnC (σ.2.2.1 3) (L.1 1))) ≤ _
      omega
/-- the highest bit -/
def hgB : Nat → Int32 → Int32 → Int32 → Int32
  | 0, _, _, a => a
  | m + 1, b, i, a => hgB m b (i + 1) (if ((b >>> (i &&& 31)) &&& 1) = 1 then i else a)
theorem c_highest : Tm (fun k => y_X0_highest k 0 L σ) (fun r => r = (hgB 8 (L.1 0) 0 0, σ)) := by
  have b1 : ∀ (m : Nat) (L' : LV), uN (L'.1 2) + m = 8 → Tm (fun k => y_X0_highest k 1 L' σ) (fun r => r = (hgB m (L'.1 0) (L'.1 2) (L'.1 1), σ)) := by
    intro m
    induction m with
    | zero =>
      intro L' a
      refine Tm_suc (fun k => by rw [y_X0_highest]) ?_
      refine Tm_yes (by rw [u_le (by decide) (by omega)]; show 8 ≤ _; omega) ?_
      refine Tm_suc (fun k => by rw [y_X0_highest]) ?_
      exact Tm_some rfl
    | succ m ih =>
      intro L' a
      have b4 : ∀ L2 : LV, L2.1 0 = L'.1 0 → L2.1 2 = L'.1 2 → Tm (fun k => y_X0_highest k 4 L2 σ) (fun r => r = (hgB m (L'.1 0) (L'.1 2 + 1) (L2.1 100), σ)) := by
        intro L2 z0 z2
        refine Tm_suc (fun k => by rw [y_X0_highest]) ?_
        refine Tm_mono (ih _ ?_) (fun r q => ?_)
        · show uN (L2.1 2 + 1) + m = 8
          rw [z2, u_inc (by omega)]; omega
        · rw [q]
          show (hgB m (L2.1 0) (L2.1 2 + 1) (L2.1 100), σ) = _
          rw [z0, z2]
      refine Tm_suc (fun k => by rw [y_X0_highest]) ?_
      refine Tm_no (by rw [u_le (by decide) (by omega)]; show ¬ 8 ≤ _; omega) ?_
      rw [show hgB (m + 1) (L'.1 0) (L'.1 2) (L'.1 1) = hgB m (L'.1 0) (L'.1 2 + 1) (if ((L'.1 0 >>> (L'.1 2 &&& 31)) &&& 1) = 1 then L'.1 2 else L'.1 1) from rfl]
      refine Tm_ite (fun c => ?_) (fun c => ?_)
      · rw [if_pos c]
        exact b4 _ rfl rfl
      · rw [if_neg c]
        refine Tm_suc (fun k => by rw [y_X0_highest]) ?_
        exact b4 _ rfl rfl
  refine Tm_suc (fun k => by rw [y_X0_highest]) ?_
  exact b1 8 _ rfl
/-- subsets: how many are taken, the last of them, which -/
def sbP (n : Int32) (s : Int32 × Int32 × Int32) : Int32 × Int32 × Int32 := if s.2.1 = n - 1 then (s.1 + (-1) + (-1), hgB 8 (s.2.2 &&& (((1 : Int32) <<< (s.2.1 &&& 31)) ^^^ (-1))) 0 0, (s.2.2 &&& (((1 : Int32) <<< (s.2.1 &&& 31)) ^^^ (-1))) &&& (((1 : Int32) <<< (hgB 8 (s.2.2 &&& (((1 : Int32) <<< (s.2.1 &&& 31)) ^^^ (-1))) 0 0 &&& 31)) ^^^ (-1))) else s
def sbN (p : Int32 × Int32 × Int32) : Int32 × Int32 × Int32 := (p.1 + 1, p.2.1 + 1, p.2.2 ||| ((1 : Int32) <<< ((p.2.1 + 1) &&& 31)))
def sbK : Nat → Int32 → Int32 × Int32 × Int32 → Bool
  | 0, _, _ => true
  | m + 1, n, s => decide (uN (sbP n s).1 < 8) && sbK m n (sbN (sbP n s))
theorem sb_all : ∀ n, n < 9 → sbK (2 ^ n - 1) (nI n) (0, -1, 0) = true := by decide +kernel
theorem sb_shl : ∀ n, n < 9 → uN ((1 : Int32) <<< (nI n &&& 31)) = 2 ^ n := by decide +kernel
theorem sub_dec8 : ∀ n, n < 9 → uN (nI n + (-1) + (-1)) < 8 → uN (nI n + (-1) + (-1)) ≤ n := by decide +kernel
theorem Gv_rw (h : Rw x) : Gv g x := Or.inl ⟨by have z : 4026531840 ≤ uN x := h.1; omega, Or.inr h⟩
theorem c_subsets (h : HQ g l t σ) (hx : Sq5 g σ (L.1 1)) : Tm (fun k => y_X0_subsets k 0 L σ) (Va g t σ) := by
  have ll := lnC_lt (σ.2.2.1 3) (L.1 1)
  have el : uN (nI (lnC (σ.2.2.1 3) (L.1 1))) = lnC (σ.2.2.1 3) (L.1 1) := u_n (by omega)
  have b4 : ∀ (L' : LV) (g' : Nat → Prop) (l' : List Nat) (t' : Nat) (σ' : CS), Ga g t σ g' l' t' σ' → uN (L'.1 3) ≤ 2048 → (∀ j, j < uN (L'.1 3) → Gv g' (σ'.2.2.1 16 j)) → Tm (fun k => y_X0_subsets k 4 L' σ') (Va g t σ) := by
    intro L' g' l' t' σ' a b c
    refine Tm_suc (fun k => by rw [y_X0_subsets]) ?_
    exact Tm_oc (mk16 (n := 0) a.1 (AXf_r σ') (Or.inr rfl) rfl rfl b c) (fun r z => Tm_some (Va_t a z))
  have b3 : ∀ (n : Nat), n < 9 → ∀ (m : Nat) (L' : LV) (g' : Nat → Prop) (l' : List Nat) (t' : Nat) (σ' : CS), Ga g t σ g' l' t' σ' → Sq5 g' σ' (L'.1 1) → L'.1 2 = nI n → L'.1 3 = L'.1 7 → uN (L'.1 7) + m = 2 ^ n → sbK m (nI n) (L'.1 4, L'.1 5, L'.1 6) = true → uN (L'.1 4) < 9 → (∀ j, j < uN (L'.1 3) → Gv g' (σ'.2.2.1 16 j)) → (∀ j, j < uN (L'.1 4) → Gv g' (σ'.2.2.1 17 j)) → Tm (fun k => y_X0_subsets k 3 L' σ') (Va g t σ) := by
    intro n hn
    have p9 : 2 ^ n ≤ 256 := Nat.pow_le_pow_right (n := 2) (by decide) (show n ≤ 8 by omega)
    intro m
    induction m with
    | zero =>
      intro L' g' l' t' σ' a s5 a2 a3 a7 ak a4 r16 r17
      have hp : uN ((1 : Int32) <<< (L'.1 2 &&& 31)) = 2 ^ n := by rw [a2]; exact sb_shl n hn
      refine Tm_suc (fun k => by rw [y_X0_subsets]) ?_
      refine Tm_yes (by rw [u_le (by omega) (by omega)]; omega) (b4 _ _ _ _ _ a ?_ r16)
      rw [a3]; omega
    | succ m ih =>
      intro L' g' l' t' σ' a s5 a2 a3 a7 ak a4 r16 r17
      have hp : uN ((1 : Int32) <<< (L'.1 2 &&& 31)) = 2 ^ n := by rw [a2]; exact sb_shl n hn
      have k1 : uN (sbP (nI n) (L'.1 4, L'.1 5, L'.1 6)).1 < 8 ∧ sbK m (nI n) (sbN (sbP (nI n) (L'.1 4, L'.1 5, L'.1 6))) = true := by
        have q : (decide (uN (sbP (nI n) (L'.1 4, L'.1 5, L'.1 6)).1 < 8) && sbK m (nI n) (sbN (sbP (nI n) (L'.1 4, L'.1 5, L'.1 6)))) = true := ak
        rw [Bool.and_eq_true, decide_eq_true_eq] at q
        exact q
      have b5 : ∀ L2 : LV, L2.1 1 = L'.1 1 → L2.1 2 = L'.1 2 → L2.1 3 = L'.1 3 → L2.1 7 = L'.1 7 → uN (L2.1 4) < 8 → sbK m (nI n) (L2.1 4 + 1, L2.1 5 + 1, L2.1 6 ||| ((1 : Int32) <<< ((L2.1 5 + 1) &&& 31))) = true → (∀ j, j < uN (L2.1 4) → Gv g' (σ'.2.2.1 17 j)) → Tm (fun k => y_X0_subsets k 5 L2 σ') (Va g t σ) := by
        intro L2 z1 z2 z3 z7 z4 zk zr
        have u4 : uN (L2.1 4 + 1) = uN (L2.1 4) + 1 := u_inc (by omega)
        have u3 : uN (L2.1 3) < 256 := by rw [z3, a3]; omega
        have e3 : uN (L2.1 3) = uN (L'.1 3) := by rw [z3]
        have hs : Sq5 g' σ' (L2.1 1) := by rw [z1]; exact s5
        have gm := mbC_g (y := L2.1 5 + 1) a.1 hs.1 hs.2
        refine Tm_suc (fun k => by rw [y_X0_subsets]) ?_
        refine Tm_ocE (c_member a.1 hs.1 hs.2) ?_
        refine Tm_chk (u_in z4 (by decide)) ?_
        have r17' : ∀ j, j < uN (L2.1 4 + 1) → Gv g' (upd (σ'.2.2.1 17) (L2.1 4).toNatClampNeg (mbC (σ'.2.2.1 3) (L2.1 1) (L2.1 5 + 1)) j) := by
          intro j hj
          rw [u_cl (by omega)]
          by_cases c : j = uN (L2.1 4)
          · rw [c, upd_same]; exact gm
          · rw [upd_other c]; exact zr j (by omega)
        refine Tm_oc (c_makeRow17 (HQ_X a.1 (AXf_A σ' (k := 17) (by decide) _ _)) (Or.inr rfl) (by decide) rfl (fun _ _ => ⟨?_, ?_⟩)) (fun r q => ?_)
        · show 0 + uN (L2.1 4 + 1) ≤ 8
          omega
        · show ∀ j, j < uN (L2.1 4 + 1) → Gv g' (upd (σ'.2.2.1 17) (L2.1 4).toNatClampNeg (mbC (σ'.2.2.1 3) (L2.1 1) (L2.1 5 + 1)) (0 + j))
          intro j hj
          rw [Nat.zero_add]
          exact r17' j hj
        obtain ⟨g2, l2, t2, M2, e, hq, sub, keep, le, val⟩ := q
        have gv : Gv g2 r.1 := val.elim (fun z => z.1) (fun z => Gv_rw z)
        have gr : Gr g' t' (uA σ' 17 (L2.1 4).toNatClampNeg (mbC (σ'.2.2.1 3) (L2.1 1) (L2.1 5 + 1))) g2 l2 t2 r.2 := ⟨hq, sub, fun p hp => by rw [e]; exact keep p hp, le, by rw [e]; exact VWc_h _ _ _⟩
        have ga' : Ga g' t' σ' g2 l2 t2 r.2 := Ga_t (Ga_X a.1 (AXf_A σ' (by decide) _ _)) (Ga_G gr)
        have ga : Ga g t σ g2 l2 t2 r.2 := Ga_t a ga'
        have e16 : r.2.2.2.1 16 = σ'.2.2.1 16 := by rw [e]; rfl
        have e17 : r.2.2.2.1 17 = upd (σ'.2.2.1 17) (L2.1 4).toNatClampNeg (mbC (σ'.2.2.1 3) (L2.1 1) (L2.1 5 + 1)) := by rw [e]; rfl
        refine Tm_chk (u_in (n := 2048) (by omega) (by decide)) ?_
        refine Tm_chk (u_in (n := 2048) (by omega) (by decide)) ?_
        have gw : Ga g t σ g2 l2 t2 (uA r.2 16 (L2.1 3).toNatClampNeg r.1) := Ga_t ga (Ga_X ga.1 (AXf_A r.2 (by decide) _ _))
        refine Tm_oc c_isError (fun r6 q6 => ?_)
        have e6 : r6.2 = uA r.2 16 (L2.1 3).toNatClampNeg r.1 := q6.1.1
        rw [e6]
        refine Tm_suc (fun k => by rw [y_X0_subsets]) ?_
        refine Tm_ite (fun c0 => ?_) (fun c0 => ?_)
        · refine Tm_suc (fun k => by rw [y_X0_subsets]) ?_
          refine ih _ g2 l2 t2 _ gw ?_ ?_ ?_ ?_ ?_ ?_ ?_ ?_
          · exact Sq5_X (AXf_A r.2 (by decide) _ _) (Sq5_G a.1 ga' hs)
          · exact z2.trans a2
          · show L2.1 3 + 1 = L2.1 7 + 1
            rw [z3, z7, a3]
          · show uN (L2.1 7 + 1) + m = 2 ^ n
            rw [z7, u_inc (by omega)]; omega
          · exact zk
          · show uN (L2.1 4 + 1) < 9
            omega
          · show ∀ j, j < uN (L2.1 3 + 1) → Gv g2 ((uA r.2 16 (L2.1 3).toNatClampNeg r.1).2.2.1 16 j)
            rw [u_inc (by omega), u_cl (by omega)]
            refine r16_p ?_ gv
            intro j hj
            rw [e16]
            exact Gv_sg (r16 j (by omega)) sub
          · show ∀ j, j < uN (L2.1 4 + 1) → Gv g2 (r.2.2.2.1 17 j)
            rw [e17]
            intro j hj
            exact Gv_sg (r17' j hj) sub
        · refine Tm_chk (u_in (n := 2048) (by show uN (L2.1 3) < 2048; omega) (by decide)) ?_
          refine Tm_some ⟨g2, l2, t2, gw, Or.inl ?_⟩
          show Gv g2 (upd (r.2.2.2.1 16) (L2.1 3).toNatClampNeg r.1 (L2.1 3).toNatClampNeg)
          rw [upd_same]
          exact gv
      refine Tm_suc (fun k => by rw [y_X0_subsets]) ?_
      refine Tm_no (by rw [u_le (by omega) (by omega)]; omega) ?_
      refine Tm_ite (fun c => ?_) (fun c => ?_)
      · have c' : L'.1 5 = nI n - 1 := by rw [← a2]; exact c
        have sp : sbP (nI n) (L'.1 4, L'.1 5, L'.1 6) = (L'.1 4 + (-1) + (-1), hgB 8 (L'.1 6 &&& (((1 : Int32) <<< (L'.1 5 &&& 31)) ^^^ (-1))) 0 0, (L'.1 6 &&& (((1 : Int32) <<< (L'.1 5 &&& 31)) ^^^ (-1))) &&& (((1 : Int32) <<< (hgB 8 (L'.1 6 &&& (((1 : Int32) <<< (L'.1 5 &&& 31)) ^^^ (-1))) 0 0 &&& 31)) ^^^ (-1))) := if_pos c'
        rw [sp] at k1
        have k4 : uN (L'.1 4 + (-1) + (-1)) < 8 := k1.1
        have k5 : uN (L'.1 4 + (-1) + (-1)) ≤ uN (L'.1 4) := by
          have q := sub_dec8 (uN (L'.1 4)) a4
          rw [← u_of (L'.1 4)] at q
          exact q k4
        refine Tm_ocE c_highest ?_
        refine b5 _ rfl rfl rfl rfl k4 k1.2 ?_
        show ∀ j, j < uN (L'.1 4 + (-1) + (-1)) → Gv g' (σ'.2.2.1 17 j)
        intro j hj
        exact r17 j (by omega)
      · have c' : ¬ L'.1 5 = nI n - 1 := by rw [← a2]; exact c
        have sp : sbP (nI n) (L'.1 4, L'.1 5, L'.1 6) = (L'.1 4, L'.1 5, L'.1 6) := if_neg c'
        rw [sp] at k1
        exact b5 _ rfl rfl rfl rfl k1.1 k1.2 r17
  have b1 : ∀ L' : LV, Tm (fun k => y_X0_subsets k 1 L' σ) (Va g t σ) := by
    intro L'
    refine Tm_suc (fun k => by rw [y_X0_subsets]) ?_
    exact Tm_some (Va_e h (AXf_r σ) eSize)
  refine Tm_suc (fun k => by rw [y_X0_subsets]) ?_
  refine Tm_ocE (c_length h hx.1) ?_
  refine Tm_ite (fun _ => b1 _) (fun c => ?_)
  have c' : ¬ (8 : Int32) < nI (lnC (σ.2.2.1 3) (L.1 1)) := c
  rw [u_ltn (by decide) (by omega), el] at c'
  have c8 : lnC (σ.2.2.1 3) (L.1 1) < 9 := by
    have e8 : uN 8 = 8 := rfl
    omega
  refine Tm_oc (c_size h hx.1) (fun r q => ?_)
  have e : r.2 = σ := q.1
  rw [e]
  refine Tm_ite (fun _ => ?_) (fun _ => b1 _)
  refine Tm_suc (fun k => by rw [y_X0_subsets]) ?_
  refine Tm_chk (by decide) ?_
  have pp : 1 ≤ 2 ^ lnC (σ.2.2.1 3) (L.1 1) := Nat.one_le_two_pow
  refine b3 (lnC (σ.2.2.1 3) (L.1 1)) c8 (2 ^ lnC (σ.2.2.1 3) (L.1 1) - 1) _ g l t _ (Ga_X h (AXf_A σ (by decide) _ _)) ?_ ?_ ?_ ?_ ?_ ?_ ?_ ?_
  · exact Sq5_X (AXf_A σ (by decide) _ _) hx
  · rfl
  · rfl
  · show 1 + (2 ^ lnC (σ.2.2.1 3) (L.1 1) - 1) = _
    omega
  · exact sb_all _ c8
  · show uN 0 < 9
    decide
  · show ∀ j, j < 1 → Gv g (upd (σ.2.2.1 16) (0 : Int32).toNatClampNeg 2 j)
    intro j hj
    have e0 : j = (0 : Int32).toNatClampNeg := by show j = 0; omega
    rw [e0, upd_same]
    exact Or.inr ⟨by decide, h.2.2.2.1.2.2⟩
  · show ∀ j, j < 0 → _
    intro j hj
    exact absurd hj (Nat.not_lt_zero j)
end CSH
end JnS370
section JnS371
/-! The class: progressions. -/
section CSI
variable {g g' g2 : Nat → Prop} {l l' l2 : List Nat} {t t' t2 : Nat} {σ σ' σ2 : CS} {L : LV} {x y i : Int32} {M M' : Nat → Int32}
theorem W2_ga (h : HQ g l t σ) (a : Ga g t σ g' l' t' σ') (q : W2 g σ x) : W2 g' σ' x := ⟨Gv_sg q.1 a.2.1, by rw [kdC_ga h a q.1]; exact q.2⟩
/-- a whole or an error -/
def WR (g : Nat → Prop) (σ : CS) (x : Int32) : Prop := W2 g σ x ∨ Rw x
theorem WR_ga (h : HQ g l t σ) (a : Ga g t σ g' l' t' σ') (q : WR g σ x) : WR g' σ' x := q.imp (W2_ga h a) id
theorem WR_g (q : WR g σ x) : Gv g x := q.elim (fun z => z.1) (fun z => Gv_rw z)
theorem u_div2 {x : Int32} (h : uN x < 2147483648) : uN (x / 2) = uN x / 2 := by
  have e := u_of x
  rw [show x / 2 = nI (uN x / 2) from by
    conv => lhs; rw [e]
    exact n_div (q := 2) h (by decide) (by decide)]
  rw [u_n (by omega)]
theorem pgr_19 (h : HQ g l t σ) (h8 : uN (L.1 8) ≤ 1001) (hr : ∀ j, j < uN (L.1 8) → Gv g (σ.2.2.1 16 j)) : Tm (fun k => y_X0_progression k 19 L σ) (Va g t σ) := by
  refine Tm_suc (fun k => by rw [y_X0_progression]) ?_
  exact Tm_oc (mk16 (n := 0) h (AXf_r σ) (Or.inr rfl) rfl rfl (by show uN (L.1 8) ≤ 2048; omega) hr) (fun r z => Tm_some z)
theorem pgr_18 (h : HQ g l t σ) : ∀ (m : Nat) (L' : LV) (σ' : CS), AXf σ σ' → uN (L'.1 8) ≤ 1001 → uN (L'.1 10) + m = uN (L'.1 8) / 2 → (∀ j, j < uN (L'.1 8) → Gv g (σ'.2.2.1 16 j)) → Tm (fun k => y_X0_progression k 18 L' σ') (Va g t σ) := by
  intro m
  induction m with
  | zero =>
    intro L' σ' w a8 a hr
    have q := u_div2 (x := L'.1 8) (by omega)
    have e19 : Tm (fun k => y_X0_progression k 19 L' σ') (Va g t σ) := Tm_mono (pgr_19 (HQ_X h w) a8 hr) (fun r z => Va_t (Ga_X h w) z)
    refine Tm_suc (fun k => by rw [y_X0_progression]) ?_
    refine Tm_ite (fun _ => e19) (fun _ => ?_)
    refine Tm_no (by decide) ?_
    exact Tm_yes (by rw [u_le (by omega) (by omega)]; omega) e19
  | succ m ih =>
    intro L' σ' w a8 a hr
    have q := u_div2 (x := L'.1 8) (by omega)
    have e19 : Tm (fun k => y_X0_progression k 19 L' σ') (Va g t σ) := Tm_mono (pgr_19 (HQ_X h w) a8 hr) (fun r z => Va_t (Ga_X h w) z)
    have u1 : uN (1 : Int32) = 1 := rfl
    have s1 : uN (L'.1 8 - 1) = uN (L'.1 8) - 1 := by rw [u_sub (by omega)]; omega
    have s2 : uN (L'.1 8 - 1 - L'.1 10) = uN (L'.1 8) - 1 - uN (L'.1 10) := by rw [u_sub (by omega), s1]
    have i1 : ¬ (L'.1 10 < 0 ∨ 2048 ≤ (L'.1 10).toNatClampNeg) := u_in (by omega) (by decide)
    have i2 : ¬ (L'.1 8 - 1 - L'.1 10 < 0 ∨ 2048 ≤ (L'.1 8 - 1 - L'.1 10).toNatClampNeg) := u_in (by omega) (by decide)
    refine Tm_suc (fun k => by rw [y_X0_progression]) ?_
    refine Tm_ite (fun _ => e19) (fun _ => ?_)
    refine Tm_no (by decide) ?_
    refine Tm_no (by rw [u_le (by omega) (by omega)]; omega) ?_
    refine Tm_chk i1 (Tm_chk i2 (Tm_chk i1 (Tm_chk i2 ?_)))
    refine ih _ _ (AXf_t w (AXf_t (AXf_A _ (by decide) _ _) (AXf_A _ (by decide) _ _))) ?_ ?_ ?_
    · exact a8
    · show uN (L'.1 10 + 1) + m = uN (L'.1 8) / 2
      rw [u_inc (by omega)]; omega
    · show ∀ j, j < uN (L'.1 8) → Gv g ((uA (uA σ' 16 (L'.1 10).toNatClampNeg (σ'.2.2.1 16 (L'.1 8 - 1 - L'.1 10).toNatClampNeg)) 16 (L'.1 8 - 1 - L'.1 10).toNatClampNeg (σ'.2.2.1 16 (L'.1 10).toNatClampNeg)).2.2.1 16 j)
      intro j hj
      show Gv g (upd (upd (σ'.2.2.1 16) (L'.1 10).toNatClampNeg (σ'.2.2.1 16 (L'.1 8 - 1 - L'.1 10).toNatClampNeg)) (L'.1 8 - 1 - L'.1 10).toNatClampNeg (σ'.2.2.1 16 (L'.1 10).toNatClampNeg) j)
      rw [u_cl (x := L'.1 10) (by omega), u_cl (x := L'.1 8 - 1 - L'.1 10) (by omega)]
      by_cases c : j = uN (L'.1 8 - 1 - L'.1 10)
      · rw [c, upd_same]
        exact hr _ (by omega)
      · rw [upd_other c]
        by_cases d : j = uN (L'.1 10)
        · rw [d, upd_same]
          exact hr _ (by omega)
        · rw [upd_other d]
          exact hr j hj
theorem pgr_12 (h : HQ g l t σ) (h8 : uN (L.1 8) ≤ 1001) (hr : ∀ j, j < uN (L.1 8) → Gv g (σ.2.2.1 16 j)) : Tm (fun k => y_X0_progression k 12 L σ) (Va g t σ) := by
  refine Tm_suc (fun k => by rw [y_X0_progression]) ?_
  refine Tm_ite (fun _ => ?_) (fun _ => Tm_some (Va_e h (AXf_r σ) eSize))
  refine Tm_suc (fun k => by rw [y_X0_progression]) ?_
  refine Tm_ite (fun _ => ?_) (fun _ => ?_)
  · exact Tm_oc (mt16 h (AXf_r σ) rfl (by show uN (L.1 8) ≤ 2048; omega) hr) (fun r z => Tm_some z)
  · refine Tm_suc (fun k => by rw [y_X0_progression]) ?_
    refine pgr_18 h (uN (L.1 8) / 2) _ _ (AXf_r σ) ?_ ?_ ?_
    · exact h8
    · show 0 + uN (L.1 8) / 2 = uN (L.1 8) / 2
      omega
    · exact hr
theorem pgr_11 : ∀ (m : Nat) (L' : LV) (g' : Nat → Prop) (l' : List Nat) (t' : Nat) (σ' : CS), HQ g' l' t' σ' → uN (L'.1 11) + m = 1001 → L'.1 8 = L'.1 11 → W2 g' σ' (L'.1 3) → WR g' σ' (L'.1 5) → WR g' σ' (L'.1 7) → WR g' σ' (L'.1 10) → (∀ j, j < uN (L'.1 8) → Gv g' (σ'.2.2.1 16 j)) → Tm (fun k => y_X0_progression k 11 L' σ') (Va g' t' σ') := by
  intro m
  induction m with
  | zero =>
    intro L' g' l' t' σ' h a11 a8 w3 w5 w7 w10 hr
    refine Tm_suc (fun k => by rw [y_X0_progression]) ?_
    exact Tm_yes (by rw [u_ltn (by decide) (by omega)]; show 1000 < _; omega) (pgr_12 h (by rw [a8]; omega) hr)
  | succ m ih =>
    intro L' g' l' t' σ' h a11 a8 w3 w5 w7 w10 hr
    have e8 : uN (L'.1 8) = uN (L'.1 11) := by rw [a8]
    have e12 : Tm (fun k => y_X0_progression k 12 L' σ') (Va g' t' σ') := pgr_12 h (by omega) hr
    have b14 : ∀ (L2 : LV) (g2 : Nat → Prop) (l2 : List Nat) (t2 : Nat) (σ2 : CS), Ga g' t' σ' g2 l2 t2 σ2 → L2.1 11 = L'.1 11 → L2.1 8 = L'.1 8 + 1 → W2 g2 σ2 (L2.1 3) → WR g2 σ2 (L2.1 5) → WR g2 σ2 (L2.1 7) → WR g2 σ2 (L2.1 100) → (∀ j, j < uN (L'.1 8) + 1 → Gv g2 (σ2.2.2.1 16 j)) → Tm (fun k => y_X0_progression k 14 L2 σ2) (Va g' t' σ') := by
      intro L2 g2 l2 t2 σ2 ga z11 z8 z3 z5 z7 z100 zr
      refine Tm_suc (fun k => by rw [y_X0_progression]) ?_
      refine Tm_mono (ih _ g2 l2 t2 σ2 ga.1 ?_ ?_ z3 z5 z7 z100 ?_) (fun r z => Va_t ga z)
      · show uN (L2.1 11 + 1) + m = 1001
        rw [z11, u_inc (by omega)]; omega
      · show L2.1 8 = L2.1 11 + 1
        rw [z8, z11, a8]
      · show ∀ j, j < uN (L2.1 8) → Gv g2 (σ2.2.2.1 16 j)
        rw [z8, u_inc (by omega)]
        exact zr
    refine Tm_suc (fun k => by rw [y_X0_progression]) ?_
    refine Tm_ite (fun _ => e12) (fun _ => Tm_ite (fun _ => e12) (fun _ => Tm_ite (fun _ => e12) (fun _ => ?_)))
    refine Tm_oc c_isError (fun r4 q4 => ?_)
    have e4 : r4.2 = σ' := q4.1.1
    rw [e4]
    refine Tm_ite (fun c4 => ?_) (fun _ => e12)
    have w10' : W2 g' σ' (L'.1 10) := w10.resolve_right (q4.2.1 c4)
    refine Tm_oc (c_compare h w10'.1 w3.1) (fun r6 q6 => ?_)
    have e6 : r6.2 = σ' := q6
    rw [e6]
    refine Tm_ite (fun _ => e12) (fun _ => ?_)
    refine Tm_oc (c_size h w10'.1) (fun r7 q7 => ?_)
    have e7 : r7.2 = σ' := q7.1
    rw [e7]
    refine Tm_chk (u_in (by omega) (by decide)) ?_
    have ga : Ga g' t' σ' g' l' t' (uA σ' 16 (L'.1 8).toNatClampNeg (L'.1 10)) := Ga_X h (AXf_A σ' (by decide) _ _)
    have hr' : ∀ j, j < uN (L'.1 8) + 1 → Gv g' ((uA σ' 16 (L'.1 8).toNatClampNeg (L'.1 10)).2.2.1 16 j) := by
      rw [u_cl (by omega)]
      exact r16_p hr w10'.1
    refine Tm_ite (fun _ => ?_) (fun _ => ?_)
    · exact b14 _ g' l' t' _ ga rfl rfl (W2_ga h ga w3) (WR_ga h ga w5) (WR_ga h ga w7) (WR_ga h ga w5) hr'
    · refine Tm_suc (fun k => by rw [y_X0_progression]) ?_
      refine Tm_oc c_isError (fun r8 q8 => ?_)
      have e8' : r8.2 = uA σ' 16 (L'.1 8).toNatClampNeg (L'.1 10) := q8.1.1
      rw [e8']
      refine Tm_ite (fun c8 => ?_) (fun c8 => ?_)
      · have w7' : W2 g' σ' (L'.1 7) := w7.resolve_right (q8.2.1 c8)
        refine Tm_suc (fun k => by rw [y_X0_progression]) ?_
        refine Tm_oc (c_added ga.1 (W2_ga h ga w10') (W2_ga h ga w7')) (fun r q => ?_)
        obtain ⟨g2, l2, t2, gr, v⟩ := Vx_2 q
        have ga2 := Ga_t ga (Ga_G gr)
        refine b14 _ g2 l2 t2 _ ga2 rfl rfl (W2_ga h ga2 w3) (WR_ga h ga2 w5) (WR_ga h ga2 w7) v ?_
        intro j hj
        rw [gr.2.2.2.2.2.2.1 16 (by decide)]
        exact Gv_sg (hr' j hj) gr.2.1
      · exact b14 _ g' l' t' _ ga rfl rfl (W2_ga h ga w3) (WR_ga h ga w5) (WR_ga h ga w7) (WR_ga h ga w7) hr'
theorem pgr_8 (h : HQ g l t σ) (w1 : W2 g σ (L.1 1)) (w3 : W2 g σ (L.1 3)) (w5 : WR g σ (L.1 5)) (w7 : WR g σ (L.1 100)) : Tm (fun k => y_X0_progression k 8 L σ) (Va g t σ) := by
  have b9 : ∀ L' : LV, L'.1 8 = 0 → L'.1 1 = L.1 1 → L'.1 3 = L.1 3 → L'.1 5 = L.1 5 → L'.1 7 = L.1 100 → Tm (fun k => y_X0_progression k 9 L' σ) (Va g t σ) := by
    intro L' a8 a1 a3 a5 a7
    refine Tm_suc (fun k => by rw [y_X0_progression]) ?_
    refine pgr_11 1001 _ g l t σ h ?_ ?_ ?_ ?_ ?_ ?_ ?_
    · rfl
    · exact a8
    · show W2 g σ (L'.1 3); rw [a3]; exact w3
    · show WR g σ (L'.1 5); rw [a5]; exact w5
    · show WR g σ (L'.1 7); rw [a7]; exact w7
    · show WR g σ (L'.1 1); rw [a1]; exact Or.inl w1
    · show ∀ j, j < uN (L'.1 8) → _
      rw [a8]
      intro j hj
      exact absurd hj (Nat.not_lt_zero j)
  refine Tm_suc (fun k => by rw [y_X0_progression]) ?_
  refine Tm_ite (fun _ => b9 _ rfl rfl rfl rfl rfl) (fun _ => Tm_ite (fun _ => b9 _ rfl rfl rfl rfl rfl) (fun _ => Tm_ite (fun _ => b9 _ rfl rfl rfl rfl rfl) (fun _ => ?_)))
  refine Tm_oc c_isError (fun r4 q4 => ?_)
  have e4 : r4.2 = σ := q4.1.1
  rw [e4]
  refine Tm_ite (fun _ => ?_) (fun _ => b9 _ rfl rfl rfl rfl rfl)
  refine Tm_oc c_number (fun r6 q6 => ?_)
  have e6 : r6.2 = σ := q6
  rw [e6]
  refine Tm_oc c_number (fun r7 q7 => ?_)
  have e7 : r7.2 = σ := q7
  rw [e7]
  refine Tm_suc (fun k => by rw [y_X0_progression]) ?_
  refine Tm_oc c_number (fun r8 q8 => ?_)
  have e8 : r8.2 = σ := q8
  rw [e8]
  refine Tm_oc (c_smallSteps g) (fun r9 q9 => ?_)
  obtain ⟨w, n1, hr⟩ := q9
  exact Tm_mono (pgr_12 (HQ_X h w) n1 hr) (fun r z => Va_t (Ga_X h w) z)
theorem pgr_4 (h : HQ g l t σ) (w1 : W2 g σ (L.1 1)) (w3 : W2 g σ (L.1 3)) (w5 : WR g σ (L.1 100)) : Tm (fun k => y_X0_progression k 4 L σ) (Va g t σ) := by
  have b6 : ∀ L' : LV, L'.1 1 = L.1 1 → L'.1 3 = L.1 3 → L'.1 5 = L.1 100 → Tm (fun k => y_X0_progression k 6 L' σ) (Va g t σ) := by
    intro L' a1 a3 a5
    have w1' : W2 g σ (L'.1 1) := by rw [a1]; exact w1
    have w3' : W2 g σ (L'.1 3) := by rw [a3]; exact w3
    have w5' : WR g σ (L'.1 5) := by rw [a5]; exact w5
    refine Tm_suc (fun k => by rw [y_X0_progression]) ?_
    refine Tm_oc c_isError (fun r4 q4 => ?_)
    have e4 : r4.2 = σ := q4.1.1
    rw [e4]
    refine Tm_ite (fun c => ?_) (fun _ => pgr_8 h w1' w3' w5' w5')
    have w5'' : W2 g σ (L'.1 5) := w5'.resolve_right (q4.2.1 c)
    refine Tm_suc (fun k => by rw [y_X0_progression]) ?_
    refine Tm_oc (c_added h w5'' w1') (fun r q => ?_)
    obtain ⟨g2, l2, t2, gr, v⟩ := Vx_2 q
    have ga := Ga_G gr
    exact Tm_mono (pgr_8 ga.1 (W2_ga h ga w1') (W2_ga h ga w3') (WR_ga h ga w5') v) (fun r z => Va_t ga z)
  refine Tm_suc (fun k => by rw [y_X0_progression]) ?_
  refine Tm_oc c_isError (fun r4 q4 => ?_)
  have e4 : r4.2 = σ := q4.1.1
  rw [e4]
  refine Tm_ite (fun c => ?_) (fun _ => b6 _ rfl rfl rfl)
  refine Tm_suc (fun k => by rw [y_X0_progression]) ?_
  refine Tm_oc (c_compare h (WR_g w5) w1.1) (fun r6 q6 => ?_)
  have e6 : r6.2 = σ := q6
  rw [e6]
  exact b6 _ rfl rfl rfl
theorem c_progression (h : HQ g l t σ) (h1 : Gv g (L.1 1)) (h2 : Gv g (L.1 2)) (h3 : Gv g (L.1 3)) : Tm (fun k => y_X0_progression k 0 L σ) (Va g t σ) := by
  have b1 : ∀ L' : LV, Tm (fun k => y_X0_progression k 1 L' σ) (Va g t σ) := by
    intro L'
    refine Tm_suc (fun k => by rw [y_X0_progression]) ?_
    exact Tm_some (Va_e h (AXf_r σ) eKind)
  have b2 : W2 g σ (L.1 1) → W2 g σ (L.1 3) → (L.1 2 = -2147483648 ∨ W2 g σ (L.1 2)) → Tm (fun k => y_X0_progression k 2 L σ) (Va g t σ) := by
    intro w1 w3 w2
    refine Tm_suc (fun k => by rw [y_X0_progression]) ?_
    refine Tm_ite (fun c => ?_) (fun c => ?_)
    · refine Tm_oc (c_added h w1 (W2_i (v := -1610612735) σ (by decide) (by decide))) (fun r q => ?_)
      obtain ⟨g2, l2, t2, gr, v⟩ := Vx_2 q
      have ga := Ga_G gr
      exact Tm_mono (pgr_4 ga.1 (W2_ga h ga w1) (W2_ga h ga w3) v) (fun r z => Va_t ga z)
    · refine Tm_suc (fun k => by rw [y_X0_progression]) ?_
      exact pgr_4 h w1 w3 (Or.inl (w2.resolve_left c))
  refine Tm_suc (fun k => by rw [y_X0_progression]) ?_
  refine Tm_oc (c_areWholes h h1 h3) (fun r q => ?_)
  have e : r.2 = σ := q.1
  rw [e]
  refine Tm_ite (fun _ => b1 _) (fun c => ?_)
  have w := q.2 c
  refine Tm_ite (fun c2 => b2 ⟨h1, w.1⟩ ⟨h3, w.2⟩ (Or.inl c2)) (fun _ => ?_)
  refine Tm_ocE (c_kind h h2) ?_
  refine Tm_ite (fun c4 => ?_) (fun _ => b1 _)
  exact b2 ⟨h1, w.1⟩ ⟨h3, w.2⟩ (Or.inr ⟨h2, kd_n (n := 2) (by decide) c4⟩)
end CSI
end JnS371
section JnS372
/-! The class: operators of one. -/
section CSJ
variable {g g' g2 : Nat → Prop} {l l' l2 : List Nat} {t t' t2 : Nat} {σ σ' σ2 : CS} {L : LV} {x y i : Int32} {M M' : Nat → Int32}
/-- what a call answers that may throw, but doesn't -/
def UO (g : Nat → Prop) (t : Nat) (σ : CS) (r : RS) : Prop := r.1.1 = 0 ∧ r.2.2 = (0, 0) ∧ Va g t σ (r.1.2, r.2.1)
theorem UO_s {v : Int32} (d : Va g t σ (v, σ')) : UO g t σ ((0, v), σ', (0, 0)) := ⟨rfl, rfl, d⟩
theorem UO_w {r : RS} (h : HQ g l t σ) (q : WO g t σ r) : UO g t σ ((0, r.1.2), r.2.1, (0, 0)) := by
  obtain ⟨a, b, σ1, w, m⟩ := q
  exact ⟨rfl, rfl, Va_M h (AXf_L w) m⟩
theorem c_unary (h : HQ g l t σ) (hx : Gv g (L.1 2)) : Tm (fun k => f_X0_unary k 0 L σ) (UO g t σ) := by
  have kk : ∀ n : Nat, n < 8 → nI (kdC (σ.2.2.1 3) (L.1 2)) = nI n → kdC (σ.2.2.1 3) (L.1 2) = n := fun n hn c => kd_n hn c
  have kl := kdC_lt (σ.2.2.1 3) (L.1 2)
  have e14 : ∀ (L' : LV) (σ' : CS), Va g t σ (L'.1 100, σ') → Tm (fun k => f_X0_unary k 14 L' σ') (UO g t σ) := by
    intro L' σ' d
    refine Tm_suc (fun k => by rw [f_X0_unary]) ?_
    exact Tm_some (UO_s d)
  have e16 : ∀ (L' : LV) (σ' : CS), Va g t σ (L'.1 100, σ') → Tm (fun k => f_X0_unary k 16 L' σ') (UO g t σ) := by
    intro L' σ' d
    refine Tm_suc (fun k => by rw [f_X0_unary]) ?_
    exact Tm_some (UO_s d)
  have e18 : ∀ (L' : LV) (σ' : CS), Va g t σ (L'.1 100, σ') → Tm (fun k => f_X0_unary k 18 L' σ') (UO g t σ) := by
    intro L' σ' d
    refine Tm_suc (fun k => by rw [f_X0_unary]) ?_
    exact Tm_some (UO_s d)
  have e20 : ∀ (L' : LV) (σ' : CS), Va g t σ (L'.1 100, σ') → Tm (fun k => f_X0_unary k 20 L' σ') (UO g t σ) := by
    intro L' σ' d
    refine Tm_suc (fun k => by rw [f_X0_unary]) ?_
    exact Tm_some (UO_s d)
  have e22 : ∀ (L' : LV) (σ' : CS), Va g t σ (L'.1 100, σ') → Tm (fun k => f_X0_unary k 22 L' σ') (UO g t σ) := by
    intro L' σ' d
    refine Tm_suc (fun k => by rw [f_X0_unary]) ?_
    exact Tm_some (UO_s d)
  have e24 : ∀ (L' : LV) (σ' : CS), Va g t σ (L'.1 100, σ') → Tm (fun k => f_X0_unary k 24 L' σ') (UO g t σ) := by
    intro L' σ' d
    refine Tm_suc (fun k => by rw [f_X0_unary]) ?_
    exact Tm_some (UO_s d)
  have e26 : ∀ (L' : LV) (σ' : CS), Va g t σ (L'.1 100, σ') → Tm (fun k => f_X0_unary k 26 L' σ') (UO g t σ) := by
    intro L' σ' d
    refine Tm_suc (fun k => by rw [f_X0_unary]) ?_
    exact Tm_some (UO_s d)
  have e28 : ∀ (L' : LV) (σ' : CS), Va g t σ (L'.1 100, σ') → Tm (fun k => f_X0_unary k 28 L' σ') (UO g t σ) := by
    intro L' σ' d
    refine Tm_suc (fun k => by rw [f_X0_unary]) ?_
    exact Tm_some (UO_s d)
  have e30 : ∀ (L' : LV) (σ' : CS), Va g t σ (L'.1 100, σ') → Tm (fun k => f_X0_unary k 30 L' σ') (UO g t σ) := by
    intro L' σ' d
    refine Tm_suc (fun k => by rw [f_X0_unary]) ?_
    exact Tm_some (UO_s d)
  have e33 : ∀ (L' : LV) (σ' : CS), Va g t σ (L'.1 100, σ') → Tm (fun k => f_X0_unary k 33 L' σ') (UO g t σ) := by
    intro L' σ' d
    refine Tm_suc (fun k => by rw [f_X0_unary]) ?_
    exact Tm_some (UO_s d)
  have er : Va g t σ (-268435455, σ) := Va_e h (AXf_r σ) eKind
  have qv : ∀ r : Int32 × CS, Qv g σ r → Va g t σ r := by
    intro r q
    have e : r = (r.1, σ) := Prod.ext rfl q.1
    rw [e]
    exact q.2.elim (fun z => Va_g h (AXf_r σ) z) (fun z => Va_e h (AXf_r σ) z)
  refine Tm_suc (fun k => by rw [f_X0_unary]) ?_
  refine Tm_op (c_kind h hx) (fun r e => ?_)
  rw [e]
  refine Tm_ite (fun _ => ?_) (fun _ => Tm_ite (fun _ => ?_) (fun _ => Tm_ite (fun _ => ?_) (fun _ => Tm_ite (fun _ => ?_) (fun _ => Tm_ite (fun _ => ?_) (fun _ => Tm_ite (fun _ => ?_) (fun _ => Tm_ite (fun _ => ?_) (fun _ => Tm_ite (fun _ => ?_) (fun _ => Tm_ite (fun _ => ?_) (fun _ => Tm_ite (fun _ => ?_) (fun _ => Tm_ite (fun _ => ?_) (fun _ => ?_)))))))))))
  · refine Tm_suc (fun k => by rw [f_X0_unary]) ?_
    refine Tm_ite (fun c => ?_) (fun _ => ?_)
    · exact Tm_op (c_negated h ⟨hx, kk 2 (by decide) c⟩) (fun r z => e14 _ _ (Va_V z))
    · refine Tm_suc (fun k => by rw [f_X0_unary]) ?_
      exact e14 _ _ er
  · refine Tm_suc (fun k => by rw [f_X0_unary]) ?_
    refine Tm_ite (fun c => ?_) (fun _ => ?_)
    · refine Tm_suc (fun k => by rw [f_X0_unary]) ?_
      exact e16 _ _ er
    · refine Tm_op (c_length h hx) (fun r e => ?_)
      rw [e]
      refine Tm_op c_small (fun r q => ?_)
      have e2 : r.2 = σ := q.1
      refine e16 _ _ ?_
      rw [e2]
      exact Va_g h (AXf_r σ) (W2_i (g := g) σ q.2.1 q.2.2).1
  · refine Tm_suc (fun k => by rw [f_X0_unary]) ?_
    refine Tm_ite (fun c => ?_) (fun _ => ?_)
    · exact Tm_op (c_absolute h ⟨hx, kk 2 (by decide) c⟩) (fun r z => e18 _ _ (Va_V z))
    · refine Tm_suc (fun k => by rw [f_X0_unary]) ?_
      exact e18 _ _ er
  · refine Tm_suc (fun k => by rw [f_X0_unary]) ?_
    refine Tm_ite (fun c => ?_) (fun _ => ?_)
    · have s5 : Sq5 g σ (L.1 2) := Sq5_k hx (by have := kk 6 (by decide) c; omega)
      refine Tm_op (c_member h s5.1 s5.2) (fun r e => ?_)
      rw [e]
      exact e20 _ _ (Va_g h (AXf_r σ) (mbC_g h s5.1 s5.2))
    · refine Tm_suc (fun k => by rw [f_X0_unary]) ?_
      exact e20 _ _ er
  · refine Tm_suc (fun k => by rw [f_X0_unary]) ?_
    refine Tm_op (c_isMap h hx) (fun r q => ?_)
    have e : r.2 = σ := q.1.1
    rw [e]
    refine Tm_ite (fun _ => ?_) (fun c => ?_)
    · refine Tm_suc (fun k => by rw [f_X0_unary]) ?_
      exact e22 _ _ er
    · exact Tm_op (c_domain h ⟨hx, q.2 c⟩) (fun r z => e22 _ _ z)
  · refine Tm_suc (fun k => by rw [f_X0_unary]) ?_
    refine Tm_op (c_isMap h hx) (fun r q => ?_)
    have e : r.2 = σ := q.1.1
    rw [e]
    refine Tm_ite (fun _ => ?_) (fun c => ?_)
    · refine Tm_suc (fun k => by rw [f_X0_unary]) ?_
      exact e24 _ _ er
    · exact Tm_op (c_range h ⟨hx, q.2 c⟩) (fun r z => e24 _ _ z)
  · refine Tm_suc (fun k => by rw [f_X0_unary]) ?_
    refine Tm_ite (fun c => ?_) (fun _ => ?_)
    · exact Tm_op (c_subsets h (Sq5_k hx (by show 5 ≤ kdC (σ.2.2.1 3) (L.1 2); have := kk 6 (by decide) c; omega))) (fun r z => e26 _ _ z)
    · refine Tm_suc (fun k => by rw [f_X0_unary]) ?_
      exact e26 _ _ er
  · refine Tm_suc (fun k => by rw [f_X0_unary]) ?_
    refine Tm_ite (fun _ => ?_) (fun _ => Tm_ite (fun _ => ?_) (fun _ => Tm_ite (fun _ => ?_) (fun _ => Tm_ite (fun _ => ?_) (fun _ => Tm_ite (fun _ => ?_) (fun _ => Tm_ite (fun _ => ?_) (fun _ => ?_))))))
    · exact Tm_oxz (c_word2 h) (fun r z => ⟨z.1, z.2.1⟩) (fun r z => Tm_some (UO_w h z))
    · exact Tm_oxz (c_word4 h) (fun r z => ⟨z.1, z.2.1⟩) (fun r z => Tm_some (UO_w h z))
    · exact Tm_oxz (c_word6 h) (fun r z => ⟨z.1, z.2.1⟩) (fun r z => Tm_some (UO_w h z))
    · exact Tm_oxz (c_word8 h) (fun r z => ⟨z.1, z.2.1⟩) (fun r z => Tm_some (UO_w h z))
    · exact Tm_oxz (c_word10 h) (fun r z => ⟨z.1, z.2.1⟩) (fun r z => Tm_some (UO_w h z))
    · exact Tm_oxz (c_word12 h) (fun r z => ⟨z.1, z.2.1⟩) (fun r z => Tm_some (UO_w h z))
    · exact Tm_oxz (c_word14 h) (fun r z => ⟨z.1, z.2.1⟩) (fun r z => Tm_some (UO_w h z))
  · refine Tm_suc (fun k => by rw [f_X0_unary]) ?_
    refine Tm_oxz (c_print h hx) (fun r z => ⟨z.1, z.2.1⟩) (fun r z => ?_)
    exact Tm_op (c_madeString (HQ_L h z.2.2.1) z.2.2.2) (fun r2 m => Tm_some (UO_s (Va_M h (AXf_L z.2.2.1) m)))
  · refine Tm_suc (fun k => by rw [f_X0_unary]) ?_
    refine Tm_ite (fun c => ?_) (fun _ => ?_)
    · exact Tm_op (c_charOf h hx) (fun r z => e28 _ _ (qv r z))
    · refine Tm_suc (fun k => by rw [f_X0_unary]) ?_
      exact e28 _ _ er
  · refine Tm_suc (fun k => by rw [f_X0_unary]) ?_
    refine Tm_ite (fun c => ?_) (fun _ => ?_)
    · exact Tm_op (c_codeOf h hx (kk 4 (by decide) c)) (fun r z => e30 _ _ (qv r z))
    · refine Tm_suc (fun k => by rw [f_X0_unary]) ?_
      exact e30 _ _ er
  · have b31 : ∀ (L' : LV), L'.1 2 = L.1 2 → L'.1 3 = nI (kdC (σ.2.2.1 3) (L.1 2)) → (kdC (σ.2.2.1 3) (L.1 2) = 4 ∨ kdC (σ.2.2.1 3) (L.1 2) = 5) → Tm (fun k => f_X0_unary k 31 L' σ) (UO g t σ) := by
      intro L' a2 a3 k45
      refine Tm_suc (fun k => by rw [f_X0_unary]) ?_
      refine Tm_op (c_reversed h ?_ ?_ ?_) (fun r z => e33 _ _ z)
      · show Gv g (L'.1 2); rw [a2]; exact hx
      · show L'.1 3 = nI (kdC (σ.2.2.1 3) (L'.1 2)); rw [a2, a3]
      · show kdC (σ.2.2.1 3) (L'.1 2) = 4 ∨ kdC (σ.2.2.1 3) (L'.1 2) = 5; rw [a2]; exact k45
    refine Tm_suc (fun k => by rw [f_X0_unary]) ?_
    refine Tm_ite (fun c => ?_) (fun _ => Tm_ite (fun c => ?_) (fun _ => ?_))
    · exact b31 _ rfl rfl (Or.inl (kk 4 (by decide) c))
    · exact b31 _ rfl rfl (Or.inr (kk 5 (by decide) c))
    · refine Tm_suc (fun k => by rw [f_X0_unary]) ?_
      exact e33 _ _ er
end CSJ
end JnS372
section JnS373
/-! The class: bits, and how many. -/
section CSK
variable {g g' g2 : Nat → Prop} {l l' l2 : List Nat} {t t' t2 : Nat} {σ σ' σ2 : CS} {L : LV} {x y i : Int32} {M M' : Nat → Int32}
/-- bits of a number below a place -/
def pcn (x : Nat) : Nat → Nat
  | 0 => 0
  | s + 1 => pcn x s + x / 2 ^ s % 2
theorem pcn_add (x a : Nat) : ∀ b, pcn x (a + b) = pcn x a + pcn (x / 2 ^ a) b
  | 0 => rfl
  | b + 1 => by
    show pcn x (a + b) + x / 2 ^ (a + b) % 2 = pcn x a + (pcn (x / 2 ^ a) b + x / 2 ^ a / 2 ^ b % 2)
    rw [pcn_add x a b, Nat.pow_add, Nat.div_div_eq_div_mul]
    omega
theorem pcn_mod (x n : Nat) : ∀ s, s ≤ n → pcn (x % 2 ^ n) s = pcn x s
  | 0, _ => rfl
  | s + 1, h => by
    show pcn (x % 2 ^ n) s + x % 2 ^ n / 2 ^ s % 2 = pcn x s + x / 2 ^ s % 2
    rw [pcn_mod x n s (by omega)]
    have e : x % 2 ^ n / 2 ^ s % 2 = x / 2 ^ s % 2 := by
      have q : 2 ^ n = 2 ^ s * 2 ^ (n - s) := by rw [← Nat.pow_add]; congr 1; omega
      rw [q, Nat.mod_mul_right_div_self, show n - s = (n - s - 1) + 1 from by omega, Nat.pow_succ, Nat.mul_comm (2 ^ (n - s - 1)) 2]
      exact Nat.mod_mul_right_mod _ _ _
    rw [e]
theorem pcn_le (x : Nat) : ∀ s, pcn x s ≤ s
  | 0 => Nat.le_refl _
  | s + 1 => by
    have := pcn_le x s
    show pcn x s + x / 2 ^ s % 2 ≤ s + 1
    omega
theorem pcn_z : ∀ (s x : Nat), x < 2 ^ s → ∀ m, pcn x (s + m) = pcn x s
  | s, x, h, 0 => rfl
  | s, x, h, m + 1 => by
    show pcn x (s + m) + x / 2 ^ (s + m) % 2 = pcn x s
    rw [pcn_z s x h m, Nat.div_eq_of_lt (Nat.lt_of_lt_of_le h (Nat.pow_le_pow_right (by decide) (by omega)))]
    rfl
/-- four bytes -/
def v4 (a b c d : Nat) : Nat := a + 256 * b + 65536 * c + 16777216 * d
theorem and8 {a r m s : Nat} (ha : a < 256) (hm : m < 256) : (a + 256 * r) &&& (m + 256 * s) = (a &&& m) + 256 * (r &&& s) := by
  have e1 : ((a + 256 * r) &&& (m + 256 * s)) % 2 ^ 8 = a &&& m := by
    rw [Nat.and_mod_two_pow]
    rw [show (a + 256 * r) % 2 ^ 8 = a from by omega, show (m + 256 * s) % 2 ^ 8 = m from by omega]
  have e2 : ((a + 256 * r) &&& (m + 256 * s)) / 2 ^ 8 = r &&& s := by
    rw [Nat.and_div_two_pow]
    rw [show (a + 256 * r) / 2 ^ 8 = r from by omega, show (m + 256 * s) / 2 ^ 8 = s from by omega]
  have e3 := Nat.div_add_mod ((a + 256 * r) &&& (m + 256 * s)) (2 ^ 8)
  rw [e1, e2] at e3
  rw [← e3]
  show 256 * (r &&& s) + (a &&& m) = _
  omega
theorem v4_and {a b c d m : Nat} (ha : a < 256) (hb : b < 256) (hc : c < 256) (hm : m < 256) : v4 a b c d &&& v4 m m m m = v4 (a &&& m) (b &&& m) (c &&& m) (d &&& m) := by
  have e : ∀ p q r s, v4 p q r s = p + 256 * (q + 256 * (r + 256 * s)) := by
    intro p q r s
    unfold v4
    omega
  rw [e, e, e, and8 ha hm, and8 hb hm, and8 hc hm]
theorem bc_1 : ∀ b, b < 256 → ∀ e, e < 2 → (b / 2 + 128 * e) &&& 85 = (b / 2) &&& 85 := by decide +kernel
theorem bc_2 : ∀ b, b < 256 → ∀ e, e < 4 → (b / 4 + 64 * e) &&& 51 = (b / 4) &&& 51 := by decide +kernel
/-- a byte's ways -/
def bt1 (b : Nat) : Nat := b - ((b / 2) &&& 85)
def bt2 (b : Nat) : Nat := (bt1 b &&& 51) + ((bt1 b / 4) &&& 51)
theorem bc_3 : ∀ b, b < 256 → (b / 2) &&& 85 ≤ b ∧ bt2 b % 16 ≤ 4 ∧ bt2 b / 16 ≤ 4 ∧ bt2 b % 16 + bt2 b / 16 = pcn b 8 := by decide +kernel
def bcA (x : Int32) : Int32 := x - (((x.toUInt32 >>> ((1 : Int32).toUInt32 &&& Int32.toUInt32 31)).toInt32) &&& 1431655765)
def bcB (x : Int32) : Int32 := (x &&& 858993459) + (((x.toUInt32 >>> ((2 : Int32).toUInt32 &&& Int32.toUInt32 31)).toInt32) &&& 858993459)
def bcC (x : Int32) : Int32 := (x + ((x.toUInt32 >>> ((4 : Int32).toUInt32 &&& Int32.toUInt32 31)).toInt32)) &&& 252645135
def bcD (x : Int32) : Int32 := x + ((x.toUInt32 >>> ((8 : Int32).toUInt32 &&& Int32.toUInt32 31)).toInt32)
def bcE (x : Int32) : Int32 := (x + ((x.toUInt32 >>> ((16 : Int32).toUInt32 &&& Int32.toUInt32 31)).toInt32)) &&& 63
theorem bcA_u {a b c d : Nat} (ha : a < 256) (hb : b < 256) (hc : c < 256) (hd : d < 256) (e : uN x = v4 a b c d) : uN (bcA x) = v4 (bt1 a) (bt1 b) (bt1 c) (bt1 d) := by
  have s : uN (((x.toUInt32 >>> ((1 : Int32).toUInt32 &&& Int32.toUInt32 31)).toInt32) &&& 1431655765) = v4 ((a / 2) &&& 85) ((b / 2) &&& 85) ((c / 2) &&& 85) ((d / 2) &&& 85) := by
    rw [u_and, u_shr x 1 (k := 1) (by decide), e]
    rw [show v4 a b c d / 2 ^ 1 = v4 (a / 2 + 128 * (b % 2)) (b / 2 + 128 * (c % 2)) (c / 2 + 128 * (d % 2)) (d / 2 + 128 * 0) from by unfold v4; omega]
    rw [show uN 1431655765 = v4 85 85 85 85 from rfl, v4_and (by omega) (by omega) (by omega) (by decide), bc_1 a ha _ (by omega), bc_1 b hb _ (by omega), bc_1 c hc _ (by omega), bc_1 d hd 0 (by decide)]
  have qa := (bc_3 a ha).1
  have qb := (bc_3 b hb).1
  have qc := (bc_3 c hc).1
  have qd := (bc_3 d hd).1
  unfold bcA
  rw [u_sub (by rw [s, e]; unfold v4; omega), s, e]
  unfold v4 bt1
  omega
theorem bt1_lt {b : Nat} (h : b < 256) : bt1 b < 256 := by unfold bt1; omega
theorem bcB_u {a b c d : Nat} (ha : a < 256) (hb : b < 256) (hc : c < 256) (hd : d < 256) (e : uN x = v4 (bt1 a) (bt1 b) (bt1 c) (bt1 d)) : uN (bcB x) = v4 (bt2 a) (bt2 b) (bt2 c) (bt2 d) := by
  have la := bt1_lt ha
  have lb := bt1_lt hb
  have lc := bt1_lt hc
  have ld := bt1_lt hd
  have s : uN (((x.toUInt32 >>> ((2 : Int32).toUInt32 &&& Int32.toUInt32 31)).toInt32) &&& 858993459) = v4 ((bt1 a / 4) &&& 51) ((bt1 b / 4) &&& 51) ((bt1 c / 4) &&& 51) ((bt1 d / 4) &&& 51) := by
    rw [u_and, u_shr x 2 (k := 2) (by decide), e]
    rw [show v4 (bt1 a) (bt1 b) (bt1 c) (bt1 d) / 2 ^ 2 = v4 (bt1 a / 4 + 64 * (bt1 b % 4)) (bt1 b / 4 + 64 * (bt1 c % 4)) (bt1 c / 4 + 64 * (bt1 d % 4)) (bt1 d / 4 + 64 * 0) from by unfold v4; omega]
    rw [show uN 858993459 = v4 51 51 51 51 from rfl, v4_and (by omega) (by omega) (by omega) (by decide), bc_2 _ la _ (by omega), bc_2 _ lb _ (by omega), bc_2 _ lc _ (by omega), bc_2 _ ld 0 (by decide)]
  have s2 : uN (x &&& 858993459) = v4 (bt1 a &&& 51) (bt1 b &&& 51) (bt1 c &&& 51) (bt1 d &&& 51) := by
    rw [u_and, e, show uN 858993459 = v4 51 51 51 51 from rfl, v4_and la lb lc (by decide)]
  have qa := bc_3 a ha
  have qb := bc_3 b hb
  have qc := bc_3 c hc
  have qd := bc_3 d hd
  unfold bt2 at *
  unfold bcB
  rw [u_add (by rw [s, s2]; unfold v4; omega), s, s2]
  unfold v4
  omega
theorem bcC_u {a b c d : Nat} (ha : a % 16 ≤ 4 ∧ a / 16 ≤ 4) (hb : b % 16 ≤ 4 ∧ b / 16 ≤ 4) (hc : c % 16 ≤ 4 ∧ c / 16 ≤ 4) (hd : d % 16 ≤ 4 ∧ d / 16 ≤ 4) (e : uN x = v4 a b c d) : uN (bcC x) = v4 (a % 16 + a / 16) (b % 16 + b / 16) (c % 16 + c / 16) (d % 16 + d / 16) := by
  have s : uN (((x.toUInt32 >>> ((4 : Int32).toUInt32 &&& Int32.toUInt32 31)).toInt32)) = v4 a b c d / 16 := by
    rw [u_shr x 4 (k := 4) (by decide), e]
  have s2 : uN (x + ((x.toUInt32 >>> ((4 : Int32).toUInt32 &&& Int32.toUInt32 31)).toInt32)) = v4 (a + a / 16 + 16 * (b % 16)) (b + b / 16 + 16 * (c % 16)) (c + c / 16 + 16 * (d % 16)) (d + d / 16) := by
    rw [u_add (by rw [s, e]; unfold v4; omega), s, e]
    unfold v4
    omega
  have m : ∀ z : Nat, z &&& 15 = z % 16 := fun z => Nat.and_two_pow_sub_one_eq_mod z 4
  unfold bcC
  rw [u_and, s2, show uN 252645135 = v4 15 15 15 15 from rfl, v4_and (by omega) (by omega) (by omega) (by decide), m, m, m, m]
  rw [show (a + a / 16 + 16 * (b % 16)) % 16 = a % 16 + a / 16 from by omega, show (b + b / 16 + 16 * (c % 16)) % 16 = b % 16 + b / 16 from by omega, show (c + c / 16 + 16 * (d % 16)) % 16 = c % 16 + c / 16 from by omega, show (d + d / 16) % 16 = d % 16 + d / 16 from by omega]
theorem bcE_u {a b c d : Nat} (ha : a ≤ 8) (hb : b ≤ 8) (hc : c ≤ 8) (hd : d ≤ 8) (e : uN x = v4 a b c d) : uN (bcE (bcD x)) = a + b + c + d := by
  have s : uN (((x.toUInt32 >>> ((8 : Int32).toUInt32 &&& Int32.toUInt32 31)).toInt32)) = v4 a b c d / 256 := by
    rw [u_shr x 8 (k := 8) (by decide), e]
  have s2 : uN (bcD x) = v4 (a + b) (b + c) (c + d) d := by
    unfold bcD
    rw [u_add (by rw [s, e]; unfold v4; omega), s, e]
    unfold v4
    omega
  generalize bcD x = y at *
  have s3 : uN (((y.toUInt32 >>> ((16 : Int32).toUInt32 &&& Int32.toUInt32 31)).toInt32)) = v4 (a + b) (b + c) (c + d) d / 65536 := by
    rw [u_shr y 16 (k := 16) (by decide), s2]
  have s4 : uN (y + ((y.toUInt32 >>> ((16 : Int32).toUInt32 &&& Int32.toUInt32 31)).toInt32)) = v4 (a + b + c + d) (b + c + d) (c + d) d := by
    rw [u_add (by rw [s3, s2]; unfold v4; omega), s3, s2]
    unfold v4
    omega
  unfold bcE
  rw [u_and, s4, show uN 63 = 2 ^ 6 - 1 from rfl, Nat.and_two_pow_sub_one_eq_mod]
  unfold v4
  omega
theorem bc_all (x : Int32) : bcE (bcD (bcC (bcB (bcA x)))) = nI (pcn (uN x) 32) := by
  have hx := u_lt x
  have e : uN x = v4 (uN x % 256) (uN x / 256 % 256) (uN x / 65536 % 256) (uN x / 16777216 % 256) := by unfold v4; omega
  generalize hA : uN x % 256 = a at e
  generalize hB : uN x / 256 % 256 = b at e
  generalize hC : uN x / 65536 % 256 = c at e
  generalize hD : uN x / 16777216 % 256 = d at e
  have la : a < 256 := by omega
  have lb : b < 256 := by omega
  have lc : c < 256 := by omega
  have ld : d < 256 := by omega
  have qa := (bc_3 a la).2
  have qb := (bc_3 b lb).2
  have qc := (bc_3 c lc).2
  have qd := (bc_3 d ld).2
  have r := bcE_u (x := bcC (bcB (bcA x))) (by omega) (by omega) (by omega) (by omega) (bcC_u ⟨qa.1, qa.2.1⟩ ⟨qb.1, qb.2.1⟩ ⟨qc.1, qc.2.1⟩ ⟨qd.1, qd.2.1⟩ (bcB_u la lb lc ld (bcA_u la lb lc ld e)))
  rw [qa.2.2, qb.2.2, qc.2.2, qd.2.2] at r
  have p : pcn (uN x) 32 = pcn a 8 + pcn b 8 + pcn c 8 + pcn d 8 := by
    have p1 := pcn_add (uN x) 8 24
    have p2 := pcn_add (uN x / 2 ^ 8) 8 16
    have p3 := pcn_add (uN x / 2 ^ 8 / 2 ^ 8) 8 8
    have z1 := pcn_mod (uN x) 8 8 (Nat.le_refl _)
    have z2 := pcn_mod (uN x / 2 ^ 8) 8 8 (Nat.le_refl _)
    have z3 := pcn_mod (uN x / 2 ^ 8 / 2 ^ 8) 8 8 (Nat.le_refl _)
    have z4 := pcn_mod (uN x / 2 ^ 8 / 2 ^ 8 / 2 ^ 8) 8 8 (Nat.le_refl _)
    rw [show uN x % 2 ^ 8 = a from hA] at z1
    rw [show uN x / 2 ^ 8 % 2 ^ 8 = b from hB] at z2
    rw [show uN x / 2 ^ 8 / 2 ^ 8 % 2 ^ 8 = c from by rw [← hC]; omega] at z3
    rw [show uN x / 2 ^ 8 / 2 ^ 8 / 2 ^ 8 % 2 ^ 8 = d from by rw [← hD]; omega] at z4
    show pcn (uN x) (8 + 24) = _
    rw [p1, show 24 = 8 + 16 from rfl, p2, show 16 = 8 + 8 from rfl, p3, ← z1, ← z2, ← z3, ← z4]
    omega
  rw [u_of (bcE (bcD (bcC (bcB (bcA x))))), r, p]
theorem c_bitCount : Tm (fun k => y_J6_bitCount_0f7a4 k 0 L σ) (fun r => r = (nI (pcn (uN (L.1 0)) 32), σ)) := by
  refine Tm_suc (fun k => by rw [y_J6_bitCount_0f7a4]) ?_
  refine Tm_some (Prod.ext ?_ rfl)
  exact bc_all (L.1 0)
/-- a bit of a row, and how many before a place -/
def bI (U : Nat → Int32) (p : Nat) : Nat := uN (U (p / 32)) / 2 ^ (p % 32) % 2
def ctB (U : Nat → Int32) : Nat → Nat
  | 0 => 0
  | p + 1 => ctB U p + bI U p
theorem ct_w (U : Nat → Int32) (i : Nat) : ∀ s, s ≤ 32 → ctB U (32 * i + s) = ctB U (32 * i) + pcn (uN (U i)) s
  | 0, _ => rfl
  | s + 1, h => by
    show ctB U (32 * i + s) + bI U (32 * i + s) = ctB U (32 * i) + (pcn (uN (U i)) s + uN (U i) / 2 ^ s % 2)
    rw [ct_w U i s (by omega)]
    unfold bI
    rw [show (32 * i + s) / 32 = i from by omega, show (32 * i + s) % 32 = s from by omega]
    omega
theorem ct_le (U : Nat → Int32) : ∀ p, ctB U p ≤ p
  | 0 => Nat.le_refl _
  | p + 1 => by
    have := ct_le U p
    show ctB U p + bI U p ≤ p + 1
    unfold bI
    omega
theorem ct_1 {U : Nat → Int32} {a : Nat} : ∀ n, (∀ j, j < n → bI U (a + j) = 1) → ctB U (a + n) = ctB U a + n
  | 0, _ => rfl
  | n + 1, h => by
    show ctB U (a + n) + bI U (a + n) = ctB U a + (n + 1)
    rw [ct_1 n (fun j hj => h j (by omega)), h n (by omega)]
    omega
theorem ct_0 {U : Nat → Int32} {a : Nat} : ∀ n, (∀ j, j < n → bI U (a + j) = 0) → ctB U (a + n) = ctB U a
  | 0, _ => rfl
  | n + 1, h => by
    show ctB U (a + n) + bI U (a + n) = ctB U a
    rw [ct_0 n (fun j hj => h j (by omega)), h n (by omega)]
    omega
theorem ct_mono (U : Nat → Int32) {a : Nat} : ∀ n, ctB U a ≤ ctB U (a + n)
  | 0 => Nat.le_refl _
  | n + 1 => by
    have := ct_mono U (a := a) n
    show ctB U a ≤ ctB U (a + n) + bI U (a + n)
    omega
end CSK
end JnS373
section JnS374
/-! The class: cells are marked. -/
section CSL
variable {g g' g2 : Nat → Prop} {l l' l2 : List Nat} {t t' t2 : Nat} {σ σ' σ2 : CS} {L : LV} {x y i : Int32} {M M' U U' : Nat → Int32}
theorem u_sar5 {x : Int32} (h : uN x < 2147483648) : uN (x >>> ((5 : Int32) &&& 31)) = uN x / 32 := by
  show (x.toBitVec.sshiftRight' (((5 : Int32) &&& 31).toBitVec.smod 32)).toNat = _
  rw [BitVec.sshiftRight_eq', show (((5 : Int32) &&& 31).toBitVec.smod 32).toNat = 5 from by decide, BitVec.sshiftRight_eq_of_msb_false (by rw [BitVec.msb_eq_decide]; exact decide_eq_false (by show ¬ 2 ^ 31 ≤ uN x; omega)), BitVec.toNat_ushiftRight, Nat.shiftRight_eq_div_pow]
  rfl
theorem u_and5 (x : Int32) : x &&& 31 = nI (uN x % 32) := by
  rw [u_of (x &&& 31), u_and]
  exact congrArg nI (Nat.and_two_pow_sub_one_eq_mod (uN x) 5)
theorem u_and1 (x : Int32) : x &&& 1 = nI (uN x % 2) := by
  rw [u_of (x &&& 1), u_and]
  exact congrArg nI (Nat.and_two_pow_sub_one_eq_mod (uN x) 1)
theorem sh_1 : ∀ s, s < 32 → uN ((1 : Int32) <<< (nI s &&& 31)) = 2 ^ s := by decide +kernel
theorem sh_2 : ∀ s, s < 32 → ((nI s).toUInt32 &&& Int32.toUInt32 31).toBitVec.toNat % 32 = s := by decide +kernel
theorem tb_i (z s : Nat) : z / 2 ^ s % 2 = 1 ↔ z.testBit s = true := by
  rw [Nat.testBit_eq_decide_div_mod_eq, decide_eq_true_eq]
theorem bI_2 (U : Nat → Int32) (p : Nat) : bI U p = 0 ∨ bI U p = 1 := by
  unfold bI
  omega
/-- a bit is looked at -/
theorem bit_t (U : Nat → Int32) (h : uN x < 2147483648) : ((((U (x >>> ((5 : Int32) &&& 31)).toNatClampNeg).toUInt32 >>> ((x &&& 31).toUInt32 &&& Int32.toUInt32 31)).toInt32) &&& 1) = 0 ↔ bI U (uN x) = 0 := by
  rw [u_cl (by rw [u_sar5 h]; omega), u_sar5 h, u_and1, u_and5, u_shr _ (nI (uN x % 32)) (k := uN x % 32) (sh_2 _ (by omega)), u_eq, u_n (by omega)]
  exact Iff.rfl
/-- a bit is set -/
theorem bit_s (U : Nat → Int32) (h : uN x < 2147483648) : ∀ p, bI (upd U (x >>> ((5 : Int32) &&& 31)).toNatClampNeg (U (x >>> ((5 : Int32) &&& 31)).toNatClampNeg ||| ((1 : Int32) <<< ((x &&& 31) &&& 31)))) p = if p = uN x then 1 else bI U p := by
  intro p
  rw [u_cl (by rw [u_sar5 h]; omega), u_sar5 h]
  have e1 : uN (U (uN x / 32) ||| ((1 : Int32) <<< ((x &&& 31) &&& 31))) = uN (U (uN x / 32)) ||| 2 ^ (uN x % 32) := by
    rw [u_or, u_and5 x, sh_1 _ (by omega)]
  unfold bI
  by_cases c : p / 32 = uN x / 32
  · rw [c, upd_same, e1]
    by_cases d : p = uN x
    · rw [if_pos d, d, tb_i, Nat.testBit_or, Nat.testBit_two_pow_self, Bool.or_true]
    · rw [if_neg d]
      have ne : uN x % 32 ≠ p % 32 := by omega
      have q1 := tb_i (uN (U (uN x / 32)) ||| 2 ^ (uN x % 32)) (p % 32)
      have q2 := tb_i (uN (U (uN x / 32))) (p % 32)
      rw [Nat.testBit_or, Nat.testBit_two_pow_of_ne ne, Bool.or_false] at q1
      have q3 := q1.trans q2.symm
      revert q3
      generalize (uN (U (uN x / 32)) ||| 2 ^ (uN x % 32)) / 2 ^ (p % 32) = a
      generalize uN (U (uN x / 32)) / 2 ^ (p % 32) = b
      intro q3
      omega
  · rw [upd_other c, if_neg (by intro e; exact c (by rw [e]))]
/-- cells lie apart -/
theorem TlC_ge : ∀ (l : List Nat) (a : Nat), TlC M t a l → ∀ p, p ∈ l → a ≤ p ∧ p + 1 + hdW (uN (M p)) ≤ t
  | [], a, h, p, hp => absurd hp (List.not_mem_nil)
  | q :: l, a, h, p, hp => by
    obtain ⟨h1, h2, h3, h4⟩ := h
    rcases List.mem_cons.1 hp with e | e
    · rw [e]
      exact ⟨by omega, h3⟩
    · have z := TlC_ge l _ h4 p e
      exact ⟨by omega, z.2⟩
theorem TlC_dj : ∀ (l : List Nat) (a : Nat), TlC M t a l → ∀ p q, p ∈ l → q ∈ l → p = q ∨ p + hdW (uN (M p)) < q ∨ q + hdW (uN (M q)) < p
  | [], a, h, p, q, hp, hq => absurd hp (List.not_mem_nil)
  | r :: l, a, h, p, q, hp, hq => by
    obtain ⟨h1, h2, h3, h4⟩ := h
    rcases List.mem_cons.1 hp with e | e
    · rcases List.mem_cons.1 hq with f | f
      · exact Or.inl (e.trans f.symm)
      · have z := TlC_ge l _ h4 q f
        right; left
        rw [e]
        omega
    · rcases List.mem_cons.1 hq with f | f
      · have z := TlC_ge l _ h4 p e
        right; right
        rw [f]
        omega
      · exact TlC_dj l _ h4 p q e f
/-- marks: whole cells, good ones -/
def BI (g : Nat → Prop) (l : List Nat) (M U : Nat → Int32) : Prop := (∀ q, q ∈ l → ∀ j, j ≤ hdW (uN (M q)) → bI U (q + j) = bI U q) ∧ (∀ q, q ∈ l → bI U q = 1 → g q) ∧ (bI U 0 = 1 ∧ bI U 1 = 1 ∧ bI U 2 = 1)
/-- the members of a cell are marked -/
def ClU (M U : Nat → Int32) (q : Nat) : Prop := 5 ≤ hdK (uN (M q)) → ∀ i, i < hdL (uN (M q)) → 3 ≤ uN (M (q + 1 + i)) → uN (M (q + 1 + i)) < 2147483648 → bI U (uN (M (q + 1 + i))) = 1
theorem ClU_m {q : Nat} (hm : ∀ p, bI U p = 1 → bI U' p = 1) (h : ClU M U q) : ClU M U' q := fun k i hi a b => hm _ (h k i hi a b)
/-- what marking leaves -/
def MkU (g : Nat → Prop) (l : List Nat) (σ : CS) (U' : Nat → Int32) : Prop := BI g l (σ.2.2.1 3) U' ∧ (∀ p, bI (σ.2.2.1 1) p = 1 → bI U' p = 1) ∧ (∀ q, q ∈ l → bI U' q = 1 → bI (σ.2.2.1 1) q = 1 ∨ ClU (σ.2.2.1 3) U' q)
def MkO (g : Nat → Prop) (l : List Nat) (σ : CS) (h : Nat) (r : Int32 × CS) : Prop := ∃ U', r.2 = uF σ 1 U' ∧ MkU g l σ U' ∧ bI U' h = 1
def MkD (g : Nat → Prop) (l : List Nat) (t d : Nat) : Prop := ∀ (L : LV) (σ : CS), HQ g l t σ → BI g l (σ.2.2.1 3) (σ.2.2.1 1) → g (uN (L.1 1)) → 3 ≤ uN (L.1 1) → uN (L.1 1) < 2147483648 → hgt (σ.2.2.1 3) (L.1 1) ≤ d → Tm (fun k => y_H2 k d 0 0 L σ) (MkO g l σ (uN (L.1 1)))
theorem in_u (h : HQ g l t σ) {p : Nat} (hp : p < t) : p / 32 < sN σ 1 ∧ p / 32 < sN σ 2 ∧ sN σ 1 ≤ 5000 ∧ sN σ 2 ≤ 5000 := by
  have a := h.2.1
  rcases h.2.2.1 with z | z <;> omega
theorem in_ui (h : HQ g l t σ) (hp : uN x < t) : ¬ (x >>> ((5 : Int32) &&& 31) < 0 ∨ sN σ 1 ≤ (x >>> ((5 : Int32) &&& 31)).toNatClampNeg) := by
  have a := in_u h hp
  have b := h.2.1
  have c := HQ_n h
  have e := u_sar5 (x := x) (by omega)
  exact u_in (by omega) (by omega)
theorem mc_0 (k d : Nat) (L : LV) (σ : CS) : y_H2 (k + 1) d 0 0 L σ = (if ¬ (((((L.1 1)) >>> ((5 : Int32) &&& 31))) < 0 ∨ (sN σ 1) ≤ ((((L.1 1)) >>> ((5 : Int32) &&& 31))).toNatClampNeg) then (if (((((((σ.2.2.1 1 ((((L.1 1)) >>> ((5 : Int32) &&& 31))).toNatClampNeg)).toUInt32 >>> (((((L.1 1)) &&& 31)).toUInt32 &&& Int32.toUInt32 31)).toInt32)) &&& 1)) = 0 then (y_H2 k d 0 1 L σ) else (some (0, σ))) else none) := rfl
theorem mc_1 (k d : Nat) (L : LV) (σ : CS) : y_H2 (k + 1) d 0 1 L σ = (if ¬ (((L.1 1)) < 0 ∨ (sN σ 3) ≤ ((L.1 1)).toNatClampNeg) then (if ¬ (((L.1 1)) < 0 ∨ (sN σ 3) ≤ ((L.1 1)).toNatClampNeg) then (if ((((σ.2.2.1 3 ((L.1 1)).toNatClampNeg)) &&& 7)) = 4 then (y_H2 k d 0 3 (lI (lI (lI L 2 ((((σ.2.2.1 3 ((L.1 1)).toNatClampNeg)) &&& 7))) 100 (((((((((((σ.2.2.1 3 ((L.1 1)).toNatClampNeg)).toUInt32 >>> ((4 : Int32).toUInt32 &&& Int32.toUInt32 31)).toInt32)) &&& 4095)) + 3)) >>> ((2 : Int32) &&& 31)))) 101 ((L.1 1))) σ) else (y_H2 k d 0 2 (lI (lI (lI L 2 ((((σ.2.2.1 3 ((L.1 1)).toNatClampNeg)) &&& 7))) 3 (((((((σ.2.2.1 3 ((L.1 1)).toNatClampNeg)).toUInt32 >>> ((4 : Int32).toUInt32 &&& Int32.toUInt32 31)).toInt32)) &&& 4095))) 100 ((L.1 1))) σ)) else none) else none) := rfl
theorem mc_2 (k d : Nat) (L : LV) (σ : CS) : y_H2 (k + 1) d 0 2 L σ = (y_H2 k d 0 3 (lI (lI L 100 ((L.1 3))) 101 ((L.1 100))) σ) := rfl
theorem mc_3 (k d : Nat) (L : LV) (σ : CS) : y_H2 (k + 1) d 0 3 L σ = (y_H2 k d 0 4 (lI (lI L 4 ((((L.1 101)) + ((L.1 100))))) 5 ((L.1 1))) σ) := rfl
theorem mc_4 (k d : Nat) (L : LV) (σ : CS) : y_H2 (k + 1) d 0 4 L σ = (if ((L.1 4)) < ((L.1 5)) then (y_H2 k d 0 5 L σ) else (if ¬ (((((L.1 5)) >>> ((5 : Int32) &&& 31))) < 0 ∨ (sN σ 1) ≤ ((((L.1 5)) >>> ((5 : Int32) &&& 31))).toNatClampNeg) then (if ¬ (((((L.1 5)) >>> ((5 : Int32) &&& 31))) < 0 ∨ (sN σ 1) ≤ ((((L.1 5)) >>> ((5 : Int32) &&& 31))).toNatClampNeg) then (y_H2 k d 0 4 (lI L 5 ((((L.1 5)) + 1))) (uA σ 1 ((((L.1 5)) >>> ((5 : Int32) &&& 31))).toNatClampNeg ((((σ.2.2.1 1 ((((L.1 5)) >>> ((5 : Int32) &&& 31))).toNatClampNeg)) ||| (((1 : Int32) <<< (((((L.1 5)) &&& 31)) &&& 31))))))) else none) else none)) := rfl
theorem mc_5 (k d : Nat) (L : LV) (σ : CS) : y_H2 (k + 1) d 0 5 L σ = (y_H2 k d 0 6 (lI L 5 ((((L.1 1)) + 1))) σ) := rfl
theorem mc_6 (k d : Nat) (L : LV) (σ : CS) : y_H2 (k + 1) d 0 6 L σ = (if ((L.1 4)) < ((L.1 5)) then (y_H2 k d 0 7 L σ) else (if ((L.1 2)) < 5 then (y_H2 k d 0 7 L σ) else (if ¬ (((L.1 5)) < 0 ∨ (sN σ 3) ≤ ((L.1 5)).toNatClampNeg) then (if ((σ.2.2.1 3 ((L.1 5)).toNatClampNeg)) < 3 then (y_H2 k d 0 8 L σ) else (if ¬ (((L.1 5)) < 0 ∨ (sN σ 3) ≤ ((L.1 5)).toNatClampNeg) then (oe d (fun e6 => oc (y_H2 k e6 0 0 (lI lZ 1 ((σ.2.2.1 3 ((L.1 5)).toNatClampNeg))) σ) (fun r6 => y_H2 k d 0 8 L r6.2))) else none)) else none))) := rfl
theorem mc_7 (k d : Nat) (L : LV) (σ : CS) : y_H2 (k + 1) d 0 7 L σ = (some (0, σ)) := rfl
theorem mc_8 (k d : Nat) (L : LV) (σ : CS) : y_H2 (k + 1) d 0 8 L σ = (y_H2 k d 0 6 (lI L 5 ((((L.1 5)) + 1))) σ) := rfl
/-- its members -/
theorem mk_6 {d h W : Nat} (ih : ∀ e, d = e + 1 → MkD g l t e) (hq : HQ g l t σ) (hg : g h) (hl : h ∈ l) (hW : W = hdW (uN (σ.2.2.1 3 h))) (hd : hdT (uN (σ.2.2.1 3 h)) ≤ d) : ∀ (m : Nat) (L : LV) (U : Nat → Int32), uN (L.1 5) + m = h + W + 1 → h < uN (L.1 5) → uN (L.1 4) = h + W → L.1 2 = nI (hdK (uN (σ.2.2.1 3 h))) → BI g l (σ.2.2.1 3) U → bI U h = 1 → (∀ p, bI (σ.2.2.1 1) p = 1 → bI U p = 1) → (∀ q, q ∈ l → bI U q = 1 → q = h ∨ bI (σ.2.2.1 1) q = 1 ∨ ClU (σ.2.2.1 3) U q) → (5 ≤ hdK (uN (σ.2.2.1 3 h)) → ∀ j, h + 1 + j < uN (L.1 5) → j < hdL (uN (σ.2.2.1 3 h)) → 3 ≤ uN (σ.2.2.1 3 (h + 1 + j)) → uN (σ.2.2.1 3 (h + 1 + j)) < 2147483648 → bI U (uN (σ.2.2.1 3 (h + 1 + j))) = 1) → Tm (fun k => y_H2 k d 0 6 L (uF σ 1 U)) (MkO g l σ h) := by
  have c := HQ_c hq hg
  have k8 : hdK (uN (σ.2.2.1 3 h)) < 8 := Nat.mod_lt _ (by decide)
  have fin : ∀ (L : LV) (U : Nat → Int32), BI g l (σ.2.2.1 3) U → bI U h = 1 → (∀ p, bI (σ.2.2.1 1) p = 1 → bI U p = 1) → (∀ q, q ∈ l → bI U q = 1 → q = h ∨ bI (σ.2.2.1 1) q = 1 ∨ ClU (σ.2.2.1 3) U q) → ClU (σ.2.2.1 3) U h → Tm (fun k => y_H2 k d 0 7 L (uF σ 1 U)) (MkO g l σ h) := by
    intro L U b bh bm bc bk
    refine Tm_suc (fun k => mc_7 k _ _ _) ?_
    refine Tm_some ⟨U, rfl, ⟨b, bm, fun q hq1 hq2 => ?_⟩, bh⟩
    rcases bc q hq1 hq2 with z | z | z
    · right; rw [z]; exact bk
    · exact Or.inl z
    · exact Or.inr z
  intro m
  induction m with
  | zero =>
    intro L U a5 a5' a4 a2 b bh bm bc bj
    refine Tm_suc (fun k => mc_6 k _ _ _) ?_
    refine Tm_yes (by rw [u_ltn (by omega) (by omega)]; omega) (fin _ _ b bh bm bc ?_)
    intro k5 i hi
    have w5 := hdW_5 k5
    exact bj k5 i (by omega) hi
  | succ m ih2 =>
    intro L U a5 a5' a4 a2 b bh bm bc bj
    have e2 : uN (L.1 2) = hdK (uN (σ.2.2.1 3 h)) := by rw [a2, u_n (by omega)]
    have u5 : uN (5 : Int32) = 5 := rfl
    have u3 : uN (3 : Int32) = 3 := rfl
    refine Tm_suc (fun k => mc_6 k _ _ _) ?_
    refine Tm_no (by rw [u_ltn (by omega) (by omega)]; omega) ?_
    refine Tm_ite (fun k5 => ?_) (fun k5 => ?_)
    · rw [u_ltn (by omega) (by omega)] at k5
      exact fin _ _ b bh bm bc (fun k => absurd k (by omega))
    · rw [u_ltn (by omega) (by omega)] at k5
      have k5' : 5 ≤ hdK (uN (σ.2.2.1 3 h)) := by omega
      have w5 := hdW_5 k5'
      have i5 : ¬ (L.1 5 < 0 ∨ sN (uF σ 1 U) 3 ≤ (L.1 5).toNatClampNeg) := u_in (by show _ < sN σ 3; omega) (by show sN σ 3 ≤ _; omega)
      have mem := (c.2.2.2.2.2.2.2.2.2.1 k5').2.2 (uN (L.1 5) - h - 1) (by omega)
      rw [show h + 1 + (uN (L.1 5) - h - 1) = uN (L.1 5) from by omega] at mem
      have b8 : ∀ (U2 : Nat → Int32), BI g l (σ.2.2.1 3) U2 → (∀ p, bI U p = 1 → bI U2 p = 1) → (∀ q, q ∈ l → bI U2 q = 1 → bI U q = 1 ∨ ClU (σ.2.2.1 3) U2 q) → (3 ≤ uN (σ.2.2.1 3 (uN (L.1 5))) → uN (σ.2.2.1 3 (uN (L.1 5))) < 2147483648 → bI U2 (uN (σ.2.2.1 3 (uN (L.1 5)))) = 1) → Tm (fun k => y_H2 k d 0 8 L (uF σ 1 U2)) (MkO g l σ h) := by
        intro U2 z1 z2 z3 z4
        refine Tm_suc (fun k => mc_8 k _ _ _) ?_
        refine ih2 _ U2 ?_ ?_ ?_ ?_ z1 (z2 _ bh) (fun p hp => z2 p (bm p hp)) ?_ ?_
        · show uN (L.1 5 + 1) + m = _
          rw [u_inc (by omega)]; omega
        · show h < uN (L.1 5 + 1)
          rw [u_inc (by omega)]; omega
        · exact a4
        · exact a2
        · intro q q1 q2
          rcases z3 q q1 q2 with w | w
          · rcases bc q q1 w with v | v | v
            · exact Or.inl v
            · exact Or.inr (Or.inl v)
            · exact Or.inr (Or.inr (ClU_m z2 v))
          · exact Or.inr (Or.inr w)
        · intro _ j hj hj2 h3 h4
          have hj' : h + 1 + j < uN (L.1 5 + 1) := hj
          rw [u_inc (by omega)] at hj'
          rcases Nat.lt_or_ge (h + 1 + j) (uN (L.1 5)) with v | v
          · exact z2 _ (bj k5' j v hj2 h3 h4)
          · have ej : h + 1 + j = uN (L.1 5) := by omega
            rw [ej] at h3 h4 ⊢
            exact z4 h3 h4
      refine Tm_chk i5 ?_
      refine Tm_ite (fun c3 => ?_) (fun c3 => ?_)
      · refine b8 U b (fun _ z => z) (fun q q1 q2 => Or.inl q2) (fun h3 h4 => ?_)
        exfalso
        have c3' : σ.2.2.1 3 (L.1 5).toNatClampNeg < 3 := c3
        rw [u_cl (by omega), u_ltn (by omega) (by decide)] at c3'
        omega
      · have c3' : ¬ σ.2.2.1 3 (L.1 5).toNatClampNeg < 3 := c3
        rw [u_cl (by omega)] at c3'
        have n3 : uN (σ.2.2.1 3 (uN (L.1 5))) < 2147483648 := by
          rcases Nat.lt_or_ge (uN (σ.2.2.1 3 (uN (L.1 5)))) 2147483648 with v | v
          · exact v
          · exfalso
            apply c3'
            rw [i_lt, u_int, u_int, if_neg (by omega), if_pos (by decide)]
            have := u_lt (σ.2.2.1 3 (uN (L.1 5)))
            omega
        rw [u_ltn n3 (by decide)] at c3'
        refine Tm_chk i5 ?_
        obtain ⟨e, he⟩ : ∃ e, d = e + 1 := ⟨d - 1, by have q := mem.2; omega⟩
        subst he
        refine Tm_oe ?_
        have cm := Gv_c mem.1 n3
        refine Tm_oc (ih e rfl _ _ (HQ_f hq (k := 1) (by decide) U) b ?_ ?_ ?_ ?_) (fun r q => ?_)
        · show g (uN (σ.2.2.1 3 (L.1 5).toNatClampNeg))
          rw [u_cl (by omega)]; exact cm.2
        · show 3 ≤ uN (σ.2.2.1 3 (L.1 5).toNatClampNeg)
          rw [u_cl (by omega)]; omega
        · show uN (σ.2.2.1 3 (L.1 5).toNatClampNeg) < _
          rw [u_cl (by omega)]; exact n3
        · show hgt (σ.2.2.1 3) (σ.2.2.1 3 (L.1 5).toNatClampNeg) ≤ e
          rw [u_cl (by omega)]
          have q := mem.2
          omega
        · obtain ⟨U2, q1, q2, q3⟩ := q
          rw [q1, uF_f]
          have q3' : bI U2 (uN (σ.2.2.1 3 (L.1 5).toNatClampNeg)) = 1 := q3
          rw [u_cl (by omega)] at q3'
          exact b8 U2 q2.1 q2.2.1 q2.2.2 (fun _ _ => q3')
/-- its ints -/
theorem mk_4 {d h W : Nat} (ih : ∀ e, d = e + 1 → MkD g l t e) (hq : HQ g l t σ) (hb : BI g l (σ.2.2.1 3) (σ.2.2.1 1)) (hg : g h) (hl : h ∈ l) (hW : W = hdW (uN (σ.2.2.1 3 h))) (hd : hdT (uN (σ.2.2.1 3 h)) ≤ d) : ∀ (m : Nat) (L : LV) (U : Nat → Int32), uN (L.1 5) + m = h + W + 1 → h ≤ uN (L.1 5) → uN (L.1 4) = h + W → uN (L.1 1) = h → L.1 2 = nI (hdK (uN (σ.2.2.1 3 h))) → (∀ p, bI U p = if h ≤ p ∧ p < uN (L.1 5) then 1 else bI (σ.2.2.1 1) p) → Tm (fun k => y_H2 k d 0 4 L (uF σ 1 U)) (MkO g l σ h) := by
  have c := HQ_c hq hg
  intro m
  induction m with
  | zero =>
    intro L U a5 a5' a4 a1 a2 hU
    have h1 : ∀ j, j ≤ W → bI U (h + j) = 1 := by
      intro j hj
      rw [hU, if_pos ⟨by omega, by omega⟩]
    have hm : ∀ p, bI (σ.2.2.1 1) p = 1 → bI U p = 1 := by
      intro p hp
      rw [hU]
      split
      · rfl
      · exact hp
    have same : ∀ q, q ∈ l → ¬ q = h → ∀ j, j ≤ hdW (uN (σ.2.2.1 3 q)) → bI U (q + j) = bI (σ.2.2.1 1) (q + j) := by
      intro q q1 q2 j hj
      rw [hU, if_neg]
      rcases TlC_dj l _ hq.2.2.2.2.2.1 q h q1 hl with v | v | v
      · exact absurd v q2
      · omega
      · omega
    refine Tm_suc (fun k => mc_4 k _ _ _) ?_
    refine Tm_yes (by rw [u_ltn (by omega) (by omega)]; omega) ?_
    refine Tm_suc (fun k => mc_5 k _ _ _) ?_
    refine mk_6 ih hq hg hl hW hd W _ U ?_ ?_ ?_ ?_ ⟨?_, ?_, ?_, ?_, ?_⟩ (h1 0 (by omega)) hm ?_ ?_
    · show uN (L.1 1 + 1) + W = _
      rw [u_inc (by omega)]; omega
    · show h < uN (L.1 1 + 1)
      rw [u_inc (by omega)]; omega
    · exact a4
    · exact a2
    · intro q q1 j hj
      by_cases v : q = h
      · rw [v] at hj ⊢
        rw [h1 j (by omega)]
        exact (h1 0 (by omega)).symm
      · rw [same q q1 v j hj, hb.1 q q1 j hj]
        exact (same q q1 v 0 (by omega)).symm
    · intro q q1 q2
      by_cases v : q = h
      · rw [v]; exact hg
      · have z := same q q1 v 0 (by omega)
        rw [Nat.add_zero] at z
        exact hb.2.1 q q1 (by rw [← z]; exact q2)
    · exact hm 0 hb.2.2.1
    · exact hm 1 hb.2.2.2.1
    · exact hm 2 hb.2.2.2.2
    · intro q q1 q2
      by_cases v : q = h
      · exact Or.inl v
      · have z := same q q1 v 0 (by omega)
        rw [Nat.add_zero] at z
        exact Or.inr (Or.inl (by rw [← z]; exact q2))
    · intro _ j hj
      have hj' : h + 1 + j < uN (L.1 1 + 1) := hj
      rw [u_inc (by omega)] at hj'
      omega
  | succ m ih2 =>
    intro L U a5 a5' a4 a1 a2 hU
    have i5 := in_ui (x := L.1 5) hq (by omega)
    refine Tm_suc (fun k => mc_4 k _ _ _) ?_
    refine Tm_no (by rw [u_ltn (by omega) (by omega)]; omega) ?_
    refine Tm_chk i5 (Tm_chk i5 ?_)
    rw [uF_a]
    refine ih2 _ _ ?_ ?_ ?_ ?_ ?_ ?_
    · show uN (L.1 5 + 1) + m = _
      rw [u_inc (by omega)]; omega
    · show h ≤ uN (L.1 5 + 1)
      rw [u_inc (by omega)]; omega
    · exact a4
    · exact a1
    · exact a2
    · show ∀ p, bI (upd U (L.1 5 >>> ((5 : Int32) &&& 31)).toNatClampNeg (U (L.1 5 >>> ((5 : Int32) &&& 31)).toNatClampNeg ||| ((1 : Int32) <<< ((L.1 5 &&& 31) &&& 31)))) p = if h ≤ p ∧ p < uN (L.1 5 + 1) then 1 else bI (σ.2.2.1 1) p
      intro p
      rw [bit_s U (by omega), u_inc (by omega)]
      by_cases v : p = uN (L.1 5)
      · rw [if_pos v, if_pos (by omega)]
      · rw [if_neg v, hU]
        by_cases w : h ≤ p ∧ p < uN (L.1 5)
        · rw [if_pos w, if_pos (by omega)]
        · rw [if_neg w, if_neg (by omega)]
theorem mk_b (d : Nat) (ih : ∀ e, d = e + 1 → MkD g l t e) : MkD g l t d := by
  intro L σ hq hb hg h3 h1 hd
  have c := HQ_c hq hg
  have hl : uN (L.1 1) ∈ l := by
    rcases (hq.2.2.2.2.2.2 _ hg).1 with z | z
    · omega
    · exact z
  have i3 : ¬ (L.1 1 < 0 ∨ sN σ 3 ≤ (L.1 1).toNatClampNeg) := u_in (by omega) (by omega)
  have cl : hdL (uN (σ.2.2.1 3 (uN (L.1 1)))) < 4096 := Nat.mod_lt _ (by decide)
  have hd' : hdT (uN (σ.2.2.1 3 (uN (L.1 1)))) ≤ d := by
    unfold hgt at hd
    rw [if_pos h1] at hd
    exact hd
  have b3 : ∀ L' : LV, uN (L'.1 100) = hdW (uN (σ.2.2.1 3 (uN (L.1 1)))) → L'.1 101 = L.1 1 → L'.1 1 = L.1 1 → L'.1 2 = nI (hdK (uN (σ.2.2.1 3 (uN (L.1 1))))) → Tm (fun k => y_H2 k d 0 3 L' σ) (MkO g l σ (uN (L.1 1))) := by
    intro L' a100 a101 a1 a2
    refine Tm_suc (fun k => mc_3 k _ _ _) ?_
    have e := uF_id σ 1
    rw [← e]
    have z := mk_4 ih hq hb hg hl rfl hd' (hdW (uN (σ.2.2.1 3 (uN (L.1 1)))) + 1) (lI (lI L' 4 (L'.1 101 + L'.1 100)) 5 (L'.1 1)) (σ.2.2.1 1) ?_ ?_ ?_ ?_ ?_ ?_
    · rw [e] at z ⊢
      exact z
    · show uN (L'.1 1) + _ = _
      rw [a1]; omega
    · show _ ≤ uN (L'.1 1)
      rw [a1]; exact Nat.le_refl _
    · show uN (L'.1 101 + L'.1 100) = _
      rw [a101, u_add (by omega), a100]
    · show uN (L'.1 1) = _
      rw [a1]
    · exact a2
    · intro p
      show _ = if uN (L.1 1) ≤ p ∧ p < uN (L'.1 1) then _ else _
      rw [a1, if_neg (by omega)]
  refine Tm_suc (fun k => mc_0 k _ _ _) ?_
  refine Tm_chk (in_ui hq (by omega)) ?_
  refine Tm_ite (fun c0 => ?_) (fun c0 => ?_)
  · refine Tm_suc (fun k => mc_1 k _ _ _) ?_
    refine Tm_chk i3 (Tm_chk i3 ?_)
    rw [e_knd, e_len, u_cl h1]
    have k8 : hdK (uN (σ.2.2.1 3 (uN (L.1 1)))) < 8 := Nat.mod_lt _ (by decide)
    refine Tm_ite (fun k4 => ?_) (fun k4 => ?_)
    · rw [u_eq, u_n (by omega)] at k4
      have k4' : hdK (uN (σ.2.2.1 3 (uN (L.1 1)))) = 4 := k4
      refine b3 _ ?_ ?_ ?_ ?_
      · show uN ((nI (hdL (uN (σ.2.2.1 3 (uN (L.1 1))))) + 3) >>> ((2 : Int32) &&& 31)) = _
        have u3 : uN (3 : Int32) = 3 := rfl
        rw [u_sar2 (by rw [u_add (by rw [u_n (by omega)]; omega), u_n (by omega)]; omega), u_add (by rw [u_n (by omega)]; omega), u_n (by omega)]
        unfold hdK at k4'
        unfold hdW
        rw [if_pos k4', u3]
      · rfl
      · rfl
      · rfl
    · rw [u_eq, u_n (by omega)] at k4
      have k4' : ¬ hdK (uN (σ.2.2.1 3 (uN (L.1 1)))) = 4 := k4
      refine Tm_suc (fun k => mc_2 k _ _ _) ?_
      refine b3 _ ?_ ?_ ?_ ?_
      · show uN (nI (hdL (uN (σ.2.2.1 3 (uN (L.1 1)))))) = _
        rw [u_n (by omega)]
        unfold hdK at k4'
        unfold hdW
        rw [if_neg k4']
      · rfl
      · rfl
      · rfl
  · rw [bit_t _ h1] at c0
    refine Tm_some ⟨σ.2.2.1 1, (uF_id σ 1).symm, ⟨hb, fun _ z => z, fun q _ z => Or.inl z⟩, ?_⟩
    rcases bI_2 (σ.2.2.1 1) (uN (L.1 1)) with z | z
    · exact absurd z c0
    · exact z
theorem mk_all : ∀ d, MkD g l t d
  | 0 => mk_b 0 (fun e he => by omega)
  | d + 1 => mk_b (d + 1) (fun e he => by
    have q : e = d := by omega
    rw [q]
    exact mk_all d)
theorem c_markCell (h : HQ g l t σ) (hb : BI g l (σ.2.2.1 3) (σ.2.2.1 1)) (hg : g (uN (L.1 1))) (h3 : 3 ≤ uN (L.1 1)) (h1 : uN (L.1 1) < 2147483648) : Tm (fun k => y_X1_markCell k 0 L σ) (MkO g l σ (uN (L.1 1))) := by
  refine mk_all 60 L σ h hb hg h3 h1 ?_
  have c := (HQ_c h hg).2.2.2.2.2.2.2.1.1
  unfold hgt
  rw [if_pos h1]
  omega
end CSL
end JnS374
