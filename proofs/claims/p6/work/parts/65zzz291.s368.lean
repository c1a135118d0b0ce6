/-! The class: a map with images. -/
section CSF
variable {g g' g2 : Nat → Prop} {l l' l2 : List Nat} {t t' t2 : Nat} {σ σ' σ2 : CS} {L : LV} {x y i : Int32} {M M' : Nat → Int32}
theorem lnC_ga (h : HQ g l t σ) (a : Ga g t σ g' l' t' σ') (hx : Gv g x) : lnC (σ'.2.2.1 3) x = lnC (σ.2.2.1 3) x := by
  unfold lnC
  split
  · rename_i c
    rw [a.2.2.1 _ (HQ_c h (Gv_c hx c).2).1]
  · rfl
theorem Sq5_G (h : HQ g l t σ) (a : Ga g t σ g' l' t' σ') (q : Sq5 g σ x) : Sq5 g' σ' x := ⟨Gv_sg q.1 a.2.1, by rw [kdC_ga h a q.1]; exact q.2⟩
theorem c_withImages (h : HQ g l t σ) (hf : MpV g σ (L.1 1)) (hx : Gv g (L.1 2)) (hv : Sq5 g σ (L.1 3)) : Tm (fun k => y_X0_withImages k 0 L σ) (Va g t σ) := by
  have ll := lnC_lt (σ.2.2.1 3) (L.1 1)
  have lv := lnC_lt (σ.2.2.1 3) (L.1 3)
  have b5 : ∀ (L' : LV) (g' : Nat → Prop) (l' : List Nat) (t' : Nat) (σ' : CS), Ga g t σ g' l' t' σ' → L'.1 1 = L.1 1 → uN (L'.1 5) < 2147483648 → uN (L'.1 7) ≤ 2048 → (∀ j, j < uN (L'.1 7) → Gv g' (σ'.2.2.1 16 j)) → Tm (fun k => y_X0_withImages k 5 L' σ') (Va g t σ) := by
    intro L' g' l' t' σ' hG a1 a5 a6 hr
    have mp := MpV_G h hG hf
    have mp' : MpV g' σ' (L'.1 1) := by rw [a1]; exact mp.1
    have lw := lnC_lt (σ'.2.2.1 3) (L'.1 1)
    refine Tm_suc (fun k => by rw [y_X0_withImages]) ?_
    refine Tm_ocE (c_length hG.1 mp'.1) ?_
    refine Tm_oc (c_load0 hG.1 (MpV_s mp') a5 (by show uN (nI (lnC (σ'.2.2.1 3) (L'.1 1))) ≤ lnC (σ'.2.2.1 3) (L'.1 1); rw [u_n (by omega)]; exact Nat.le_refl _) a6 hr) (fun r q => ?_)
    obtain ⟨f, f1, f2, f3⟩ := q
    rw [f1]
    exact Tm_oc (mk16 (n := 0) hG.1 (AXf_F σ' (k := 16) (by decide) f) (Or.inr rfl) rfl rfl f2 f3) (fun r z => Tm_some (Va_t hG z))
  have b4 : ∀ (m : Nat) (L' : LV) (g' : Nat → Prop) (l' : List Nat) (t' : Nat) (σ' : CS), Ga g t σ g' l' t' σ' → L'.1 1 = L.1 1 → L'.1 2 = L.1 2 → L'.1 3 = L.1 3 → uN (L'.1 8) + m = lnC (σ.2.2.1 3) (L.1 3) → uN (L'.1 5) < 2147483648 → uN (L'.1 7) ≤ 2048 → (∀ j, j < uN (L'.1 7) → Gv g' (σ'.2.2.1 16 j)) → Tm (fun k => y_X0_withImages k 4 L' σ') (Va g t σ) := by
    intro m
    induction m with
    | zero =>
      intro L' g' l' t' σ' hG a1 a2 a3 a8 a5 a7 hr
      have e := lnC_ga h hG hv.1
      refine Tm_suc (fun k => by rw [y_X0_withImages]) ?_
      refine Tm_ocE (c_length hG.1 (by show Gv g' (L'.1 3); rw [a3]; exact (Sq5_G h hG hv).1)) ?_
      refine Tm_yes ?_ (b5 _ _ _ _ _ hG a1 a5 a7 hr)
      show nI (lnC (σ'.2.2.1 3) (L'.1 3)) ≤ L'.1 8
      rw [a3, e, u_le (by rw [u_n (by omega)]; omega) (by omega), u_n (by omega)]
      omega
    | succ m ih =>
      intro L' g' l' t' σ' hG a1 a2 a3 a8 a5 a7 hr
      have sv : Sq5 g' σ' (L'.1 3) := by rw [a3]; exact Sq5_G h hG hv
      refine Tm_suc (fun k => by rw [y_X0_withImages]) ?_
      refine Tm_ocE (c_length hG.1 sv.1) ?_
      refine Tm_ite (fun _ => b5 _ _ _ _ _ hG a1 a5 a7 hr) (fun _ => Tm_ite (fun _ => b5 _ _ _ _ _ hG a1 a5 a7 hr) (fun c => ?_))
      rw [u_le (by decide) (by omega)] at c
      have c7 : uN (L'.1 7) < 2048 := Nat.lt_of_not_le c
      refine Tm_ocE (c_member hG.1 sv.1 sv.2) ?_
      refine Tm_oc (c_pair hG.1 (by show Gv g' (L'.1 2); rw [a2]; exact Gv_sg hx hG.2.1) (mbC_g hG.1 sv.1 sv.2)) (fun r5 q5 => ?_)
      obtain ⟨g5, l5, t5, G5, e16, v5⟩ := q5
      have GG := Ga_t hG G5
      refine Tm_chk (u_in c7 (by decide)) ?_
      refine Tm_chk (u_in c7 (by decide)) ?_
      have w6 := AXf_A r5.2 (k := 16) (by decide) (L'.1 7).toNatClampNeg r5.1
      have G6 := Ga_t GG (Ga_X G5.1 w6)
      have rn : (uA r5.2 16 (L'.1 7).toNatClampNeg r5.1).2.2.1 16 (L'.1 7).toNatClampNeg = r5.1 := by
        show upd (r5.2.2.2.1 16) (L'.1 7).toNatClampNeg r5.1 (L'.1 7).toNatClampNeg = r5.1
        exact upd_same
      rw [rn]
      refine Tm_oc c_isError (fun r8 q8 => ?_)
      have e8 : r8.2 = uA r5.2 16 (L'.1 7).toNatClampNeg r5.1 := q8.1.1
      rw [e8]
      refine Tm_ite (fun c => ?_) (fun c => ?_)
      · have g5v : Gv g5 r5.1 := v5.resolve_right (q8.2.1 c)
        have e7 : uN (L'.1 7 + 1) = uN (L'.1 7) + 1 := u_inc (by omega)
        refine Tm_suc (fun k => by rw [y_X0_withImages]) ?_
        refine ih _ g5 l5 t5 _ G6 ?_ ?_ ?_ ?_ ?_ ?_ ?_
        · exact a1
        · exact a2
        · exact a3
        · show uN (L'.1 8 + 1) + m = _
          rw [u_inc (by omega)]; omega
        · exact a5
        · show uN (L'.1 7 + 1) ≤ 2048; omega
        · show ∀ j, j < uN (L'.1 7 + 1) → Gv g5 ((uA r5.2 16 (L'.1 7).toNatClampNeg r5.1).2.2.1 16 j)
          rw [e7, u_cl (by omega)]
          refine r16_p (fun j hj => ?_) g5v
          rw [e16]
          exact Gv_sg (hr j hj) G5.2.1
      · refine Tm_chk (u_in c7 (by decide)) ?_
        rw [rn]
        exact Tm_some ⟨g5, l5, t5, G6, v5⟩
  have b2 : ∀ L' : LV, L'.1 1 = L.1 1 → L'.1 2 = L.1 2 → L'.1 3 = L.1 3 → uN (L'.1 4) ≤ lnC (σ.2.2.1 3) (L.1 1) → uN (L'.1 5) ≤ 4096 → Tm (fun k => y_X0_withImages k 2 L' σ) (Va g t σ) := by
    intro L' a1 a2 a3 a4 a5
    refine Tm_suc (fun k => by rw [y_X0_withImages]) ?_
    refine Tm_ite (fun _ => ?_) (fun _ => Tm_some (Va_e h (AXf_r σ) eSize))
    refine Tm_suc (fun k => by rw [y_X0_withImages]) ?_
    refine Tm_oc (c_load0 h (by show Sq5 g σ (L'.1 1); rw [a1]; exact MpV_s hf) (by show uN 0 < _; decide) (by show uN (L'.1 4) ≤ lnC (σ.2.2.1 3) (L'.1 1); rw [a1]; exact a4) (by show uN 0 ≤ _; decide) (fun j hj => absurd hj (Nat.not_lt_zero j))) (fun r q => ?_)
    obtain ⟨f, f1, f2, f3⟩ := q
    rw [f1]
    refine b4 (lnC (σ.2.2.1 3) (L.1 3)) _ g l t _ (Ga_X h (AXf_F σ (k := 16) (by decide) f)) ?_ ?_ ?_ ?_ ?_ ?_ ?_
    · exact a1
    · exact a2
    · exact a3
    · show 0 + _ = _; omega
    · show uN (L'.1 5) < _; omega
    · exact f2
    · exact f3
  have b1 : ∀ (m : Nat) (L' : LV), uN (L'.1 7) + m = 4097 → L'.1 1 = L.1 1 → L'.1 2 = L.1 2 → L'.1 3 = L.1 3 → uN (L'.1 4) ≤ lnC (σ.2.2.1 3) (L.1 1) → uN (L'.1 5) ≤ 4096 → Tm (fun k => y_X0_withImages k 1 L' σ) (Va g t σ) := by
    intro m
    induction m with
    | zero =>
      intro L' a7 a1 a2 a3 a4 a5
      refine Tm_suc (fun k => by rw [y_X0_withImages]) ?_
      exact Tm_yes (by rw [u_le (by omega) (by omega)]; omega) (b2 _ a1 a2 a3 a4 a5)
    | succ m ih =>
      intro L' a7 a1 a2 a3 a4 a5
      have sf : Sq5 g σ (L'.1 1) := by rw [a1]; exact MpV_s hf
      refine Tm_suc (fun k => by rw [y_X0_withImages]) ?_
      refine Tm_ite (fun _ => b2 _ a1 a2 a3 a4 a5) (fun _ => ?_)
      refine Tm_ocE (c_member h sf.1 sf.2) ?_
      refine Tm_oc (c_size h (mbC_g h sf.1 sf.2)) (fun r q => ?_)
      have e : r.2 = σ := q.1
      rw [e]
      refine ih _ ?_ ?_ ?_ ?_ ?_ ?_
      · show uN (L'.1 7 + 1) + m = _
        rw [u_inc (by omega)]; omega
      · exact a1
      · exact a2
      · exact a3
      · exact a4
      · exact a5
  refine Tm_suc (fun k => by rw [y_X0_withImages]) ?_
  refine Tm_oc (c_pairsFrom h hf hx) (fun r1 q1 => ?_)
  have e1 : r1.2 = σ := q1.1
  have p1 : uN r1.1 ≤ lnC (σ.2.2.1 3) (L.1 1) := q1.2
  rw [e1]
  refine Tm_oc (c_pairsTo h hf hx q1.2) (fun r2 q2 => ?_)
  have e2 : r2.2 = σ := q2.1
  have p2 : uN r2.1 ≤ lnC (σ.2.2.1 3) (L.1 1) := q2.2.2
  rw [e2]
  refine Tm_oc (c_size h hf.1) (fun r3 q3 => ?_)
  have e3 : r3.2 = σ := q3.1
  rw [e3]
  refine Tm_oc (c_size h hv.1) (fun r4 q4 => ?_)
  have e4 : r4.2 = σ := q4.1
  rw [e4]
  refine Tm_ocE (c_length h hv.1) ?_
  refine Tm_oc (c_size h hx) (fun r6 q6 => ?_)
  have e6 : r6.2 = σ := q6.1
  rw [e6]
  refine b1 (4097 - uN r1.1) _ ?_ ?_ ?_ ?_ ?_ ?_
  · show uN r1.1 + _ = _; omega
  · rfl
  · rfl
  · rfl
  · exact p1
  · show uN r2.1 ≤ 4096; omega
end CSF
