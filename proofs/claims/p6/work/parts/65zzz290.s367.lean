/-! The class: a pair, a map with a pair. -/
section CSE
variable {g g' g2 : Nat → Prop} {l l' l2 : List Nat} {t t' t2 : Nat} {σ σ' σ2 : CS} {L : LV} {x y i : Int32} {M M' : Nat → Int32}
theorem MpV_G (h : HQ g l t σ) (a : Ga g t σ g' l' t' σ') (m : MpV g σ x) : MpV g' σ' x ∧ lnC (σ'.2.2.1 3) x = lnC (σ.2.2.1 3) x := by
  have e : σ'.2.2.1 3 (uN x) = σ.2.2.1 3 (uN x) := a.2.2.1 _ (HQ_c h (Gv_c m.1 m.2.1).2).1
  refine ⟨⟨Gv_sg m.1 a.2.1, m.2.1, by rw [kdC_ga h a m.1]; exact m.2.2.1, by rw [e]; exact m.2.2.2⟩, ?_⟩
  unfold lnC
  rw [if_pos m.2.1, if_pos m.2.1, e]
theorem c_pair (h : HQ g l t σ) (hx : Gv g (L.1 1)) (hy : Gv g (L.1 2)) : Tm (fun k => y_X0_pair k 0 L σ) (fun r => ∃ (g' : Nat → Prop) (l' : List Nat) (t' : Nat), Ga g t σ g' l' t' r.2 ∧ r.2.2.2.1 16 = σ.2.2.1 16 ∧ (Gv g' r.1 ∨ Rw r.1)) := by
  have w : AXf σ (uA (uA σ 17 (0 : Int32).toNatClampNeg (L.1 1)) 17 (1 : Int32).toNatClampNeg (L.1 2)) := AXf_t (AXf_A σ (k := 17) (by decide) _ _) (AXf_A _ (k := 17) (by decide) _ _)
  refine Tm_suc (fun k => by rw [y_X0_pair]) ?_
  refine Tm_chk (by decide) ?_
  refine Tm_chk (by decide) ?_
  refine Tm_oc (c_makeRow17 (HQ_X h w) (Or.inl rfl) (by decide) rfl (fun _ _ => ⟨by show 0 + 2 ≤ 8; decide, fun j hj => ?_⟩)) (fun r q => ?_)
  · have hj' : j < 2 := hj
    show Gv g (upd (upd (σ.2.2.1 17) 0 (L.1 1)) 1 (L.1 2) (0 + j))
    rw [Nat.zero_add]
    by_cases c : j = 1
    · rw [c, upd_same]; exact hy
    · rw [upd_other c, show j = 0 from by omega, upd_same]; exact hx
  · obtain ⟨g1, l1, t1, M1, e, q1, q2, q3, q4, q5⟩ := q
    refine Tm_some ⟨g1, l1, t1, Ga_t (Ga_X h w) ⟨q1, q2, ?_, q4, ?_⟩, ?_, q5.imp (fun z => z.1) id⟩
    · rw [e]; exact q3
    · rw [e]; exact AWf_V (VWc_h _ _ _)
    · rw [e]; rfl
theorem c_withPair (h : HQ g l t σ) (hf : MpV g σ (L.1 1)) (hx : Gv g (L.1 2)) (hv : Gv g (L.1 3)) : Tm (fun k => y_X0_withPair k 0 L σ) (Va g t σ) := by
  have ll := lnC_lt (σ.2.2.1 3) (L.1 1)
  have rc := row_c h hf.1 (by have := hf.2.2.1; omega) (by have := hf.2.2.1; omega)
  have b1 : ∀ (L' : LV) (g' : Nat → Prop) (l' : List Nat) (t' : Nat) (σ' : CS), Ga g t σ g' l' t' σ' → L'.1 1 = L.1 1 → uN (L'.1 5) < 2147483648 → uN (L'.1 6) ≤ 2048 → (∀ j, j < uN (L'.1 6) → Gv g' (σ'.2.2.1 16 j)) → Tm (fun k => y_X0_withPair k 1 L' σ') (Va g t σ) := by
    intro L' g' l' t' σ' hG a1 a5 a6 hr
    have mp := MpV_G h hG hf
    have mp' : MpV g' σ' (L'.1 1) := by rw [a1]; exact mp.1
    have lw := lnC_lt (σ'.2.2.1 3) (L'.1 1)
    refine Tm_suc (fun k => by rw [y_X0_withPair]) ?_
    refine Tm_ocE (c_length hG.1 mp'.1) ?_
    refine Tm_oc (c_load0 hG.1 (MpV_s mp') a5 (by show uN (nI (lnC (σ'.2.2.1 3) (L'.1 1))) ≤ lnC (σ'.2.2.1 3) (L'.1 1); rw [u_n (by omega)]; exact Nat.le_refl _) a6 hr) (fun r q => ?_)
    obtain ⟨f, f1, f2, f3⟩ := q
    rw [f1]
    exact Tm_oc (mk16 (n := 0) hG.1 (AXf_F σ' (k := 16) (by decide) f) (Or.inr rfl) rfl rfl f2 f3) (fun r z => Tm_some (Va_t hG z))
  refine Tm_suc (fun k => by rw [y_X0_withPair]) ?_
  refine Tm_oc (c_pairsFrom h hf hx) (fun r1 q1 => ?_)
  have e1 : r1.2 = σ := q1.1
  have p1 : uN r1.1 ≤ lnC (σ.2.2.1 3) (L.1 1) := q1.2
  rw [e1]
  refine Tm_oc (c_pairsTo h hf hx q1.2) (fun r2 q2 => ?_)
  have e2 : r2.2 = σ := q2.1
  have p2 : uN r2.1 ≤ lnC (σ.2.2.1 3) (L.1 1) := q2.2.2
  rw [e2]
  refine Tm_oc (c_load0x h (MpV_s hf) (by show uN 0 < _; decide) p1 (by show uN 0 ≤ _; decide) (fun j hj => absurd hj (Nat.not_lt_zero j))) (fun r3 q3 => ?_)
  obtain ⟨f, f1, f2, f3, f4⟩ := q3
  have f5 : uN r3.1 = 0 + (uN r1.1 - 0) := f4 rc.1 (Nat.zero_le _) (by show uN r1.1 - 0 ≤ 2048 - 0; omega)
  rw [f1]
  have w := AXf_F σ (k := 16) (by decide) f
  refine Tm_ite (fun _ => ?_) (fun _ => ?_)
  · refine b1 _ g l t _ (Ga_X h w) ?_ ?_ ?_ ?_
    · rfl
    · show uN r2.1 < _; omega
    · exact f2
    · exact f3
  · refine Tm_oc (c_pair (HQ_X h w) hx hv) (fun r5 q5 => ?_)
    obtain ⟨g5, l5, t5, G5, e16, v5⟩ := q5
    have GG := Ga_t (Ga_X h w) G5
    refine Tm_chk (u_in (by omega) (by decide)) ?_
    refine Tm_chk (u_in (by omega) (by decide)) ?_
    have w6 := AXf_A r5.2 (k := 16) (by decide) r3.1.toNatClampNeg r5.1
    have G6 := Ga_t GG (Ga_X G5.1 w6)
    have rn : (uA r5.2 16 r3.1.toNatClampNeg r5.1).2.2.1 16 r3.1.toNatClampNeg = r5.1 := by
      show upd (r5.2.2.2.1 16) r3.1.toNatClampNeg r5.1 r3.1.toNatClampNeg = r5.1
      exact upd_same
    rw [rn]
    refine Tm_oc c_isError (fun r8 q8 => ?_)
    have e8 : r8.2 = uA r5.2 16 r3.1.toNatClampNeg r5.1 := q8.1.1
    rw [e8]
    refine Tm_ite (fun c => ?_) (fun c => ?_)
    · have g5v : Gv g5 r5.1 := v5.resolve_right (q8.2.1 c)
      have e6 : uN (r3.1 + 1) = uN r3.1 + 1 := u_inc (by omega)
      refine Tm_suc (fun k => by rw [y_X0_withPair]) ?_
      refine b1 _ g5 l5 t5 _ G6 ?_ ?_ ?_ ?_
      · rfl
      · show uN r2.1 < _; omega
      · show uN (r3.1 + 1) ≤ 2048; omega
      · show ∀ j, j < uN (r3.1 + 1) → Gv g5 ((uA r5.2 16 r3.1.toNatClampNeg r5.1).2.2.1 16 j)
        rw [e6, u_cl (by omega)]
        refine r16_p (fun j hj => ?_) g5v
        rw [e16]
        exact Gv_sg (f3 j hj) G5.2.1
    · refine Tm_chk (u_in (by omega) (by decide)) ?_
      rw [rn]
      refine Tm_some ⟨g5, l5, t5, G6, v5⟩
end CSE
