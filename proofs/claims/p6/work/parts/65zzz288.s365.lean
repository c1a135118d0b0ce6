/-! The class: a set out of the stack. -/
section CSC
variable {g g' g2 : Nat → Prop} {l l' l2 : List Nat} {t t' t2 : Nat} {σ σ' σ2 : CS} {L : LV} {x y i : Int32} {M M' : Nat → Int32}
/-- what setOf leaves: the stack's other places are the same -/
def SeO (g : Nat → Prop) (t : Nat) (σ : CS) (s n : Nat) (r : Int32 × CS) : Prop := ∃ f, (∀ j, j < s ∨ s + n ≤ j → f j = σ.2.2.1 20 j) ∧ Va g t (uF σ 20 f) r
theorem c_setOf (h : HQ g l t σ) (hN : sN σ 20 ≤ 1000000000) {s n : Nat} (h2 : uN (L.1 2) = s) (h3 : uN (L.1 3) = n) (he : s + n ≤ sN σ 20) (hv : ∀ j, j < n → Gv g (σ.2.2.1 20 (s + j))) : Tm (fun k => y_X0_setOf__z20 k 0 L σ) (SeO g t σ s n) := by
  have e23 : uN (L.1 2 + L.1 3) = s + n := by rw [u_add (by omega), h2, h3]
  have b5 : ∀ (L' : LV) (f : Nat → Int32), L'.1 2 = L.1 2 → uN (L'.1 4) ≤ n → (∀ j, j < s ∨ s + n ≤ j → f j = σ.2.2.1 20 j) → (∀ j, s ≤ j → j < s + uN (L'.1 4) → Gv g (f j)) → Tm (fun k => y_X0_setOf__z20 k 5 L' (uF σ 20 f)) (SeO g t σ s n) := by
    intro L' f a2 a4 fo fv
    have h' : HQ g l t (uF σ 20 f) := HQ_f h (by decide) f
    refine Tm_suc (fun k => by rw [y_X0_setOf__z20]) ?_
    refine Tm_oc (c_makeRow20 h' (Or.inr rfl) (by show sN σ 20 ≤ _; omega) rfl (fun _ _ => ?_)) (fun r q => Tm_some ⟨f, fo, Va_V (Vx_M q)⟩)
    show uN (L'.1 2) + uN (L'.1 4) ≤ sN σ 20 ∧ ∀ j, j < uN (L'.1 4) → Gv g (f (uN (L'.1 2) + j))
    rw [a2, h2]
    exact ⟨by omega, fun j hj => fv _ (by omega) (by omega)⟩
  have b4 : ∀ (m : Nat) (L' : LV) (f : Nat → Int32), L'.1 2 = L.1 2 → L'.1 3 = L.1 3 → uN (L'.1 6) + m = n → uN (L'.1 4) ≤ uN (L'.1 6) → (∀ j, j < s ∨ s + uN (L'.1 6) ≤ j → f j = σ.2.2.1 20 j) → (∀ j, s ≤ j → j < s + uN (L'.1 4) → Gv g (f j)) → Tm (fun k => y_X0_setOf__z20 k 4 L' (uF σ 20 f)) (SeO g t σ s n) := by
    intro m
    induction m with
    | zero =>
      intro L' f a2 a3 a6 a4 fo fv
      refine Tm_suc (fun k => by rw [y_X0_setOf__z20]) ?_
      refine Tm_yes (by rw [a3, u_le (by omega) (by omega)]; omega) (b5 _ f a2 (by omega) (fun j hj => fo j (by omega)) fv)
    | succ m ih =>
      intro L' f a2 a3 a6 a4 fo fv
      have h' : HQ g l t (uF σ 20 f) := HQ_f h (by decide) f
      have e26 : uN (L'.1 2 + L'.1 6) = s + uN (L'.1 6) := by rw [a2, u_add (by omega), h2]
      have e24 : uN (L'.1 2 + L'.1 4) = s + uN (L'.1 4) := by rw [a2, u_add (by omega), h2]
      have gx : Gv g (f (L'.1 2 + L'.1 6).toNatClampNeg) := by
        rw [u_cl (by omega), e26, fo _ (by omega)]
        exact hv _ (by omega)
      have b6 : ∀ (L2 : LV) (f2 : Nat → Int32), L2.1 2 = L.1 2 → L2.1 3 = L.1 3 → L2.1 6 = L'.1 6 → uN (L2.1 4) ≤ uN (L'.1 6) + 1 → (∀ j, j < s ∨ s + uN (L'.1 6) + 1 ≤ j → f2 j = σ.2.2.1 20 j) → (∀ j, s ≤ j → j < s + uN (L2.1 4) → Gv g (f2 j)) → Tm (fun k => y_X0_setOf__z20 k 6 L2 (uF σ 20 f2)) (SeO g t σ s n) := by
        intro L2 f2 z2 z3 z6 z4 zo zv
        have e6 : uN (L2.1 6 + 1) = uN (L'.1 6) + 1 := by rw [z6, u_inc (by omega)]
        refine Tm_suc (fun k => by rw [y_X0_setOf__z20]) ?_
        refine ih _ f2 ?_ ?_ ?_ ?_ ?_ ?_
        · exact z2
        · exact z3
        · show uN (L2.1 6 + 1) + m = n; omega
        · show uN (L2.1 4) ≤ uN (L2.1 6 + 1); omega
        · show ∀ j, j < s ∨ s + uN (L2.1 6 + 1) ≤ j → f2 j = σ.2.2.1 20 j
          rw [e6]; exact zo
        · exact zv
      refine Tm_suc (fun k => by rw [y_X0_setOf__z20]) ?_
      refine Tm_ite (fun c => absurd c (by rw [a3, u_le (by omega) (by omega)]; omega)) (fun _ => ?_)
      refine Tm_chk (u_in (by show uN (L'.1 2 + L'.1 6) < sN σ 20; omega) (by show sN σ 20 ≤ _; omega)) ?_
      refine Tm_oc (c_insert20 (s := s) (n := uN (L'.1 4)) (e := s + uN (L'.1 4)) h' (by show sN σ 20 ≤ _; omega) (by show uN (L'.1 2) = s; rw [a2, h2]) rfl e24 (Nat.le_refl _) (by show s + uN (L'.1 4) + 1 ≤ sN σ 20; omega) (fun j j1 j2 => fv j j1 j2) gx) (fun r q => ?_)
      rcases q with ⟨q1, q2⟩ | ⟨q1, f2, q2, q3, q4, q5, q6⟩
      · rw [q2]
        refine Tm_ite (fun _ => b6 _ f a2 a3 rfl (by omega) (fun j hj => fo j (by omega)) fv) (fun z => absurd q1 z)
      · rw [q2, uF_f]
        refine Tm_ite (fun z => absurd (z.symm.trans q1) (by decide)) (fun _ => ?_)
        have h2' : HQ g l t (uF σ 20 f2) := HQ_f h (by decide) f2
        have o2 : ∀ j, j < s ∨ s + uN (L'.1 6) + 1 ≤ j → f2 j = σ.2.2.1 20 j := by
          intro j hj
          rcases hj with hj | hj
          · exact (q3 j hj).trans (fo j (Or.inl hj))
          · exact (q6 j (by omega)).trans (fo j (Or.inr (by omega)))
        refine Tm_oc (c_size h2' gx) (fun r5 z5 => ?_)
        have e5 : r5.2 = uF σ 20 f2 := z5.1
        rw [e5]
        have e4 : uN (L'.1 4 + 1) = uN (L'.1 4) + 1 := u_inc (by omega)
        refine Tm_ite (fun _ => ?_) (fun _ => Tm_some ⟨f2, fun j hj => o2 j (by omega), Va_e h2' (AXf_r _) eSize⟩)
        refine b6 _ f2 ?_ ?_ ?_ ?_ o2 ?_
        · exact a2
        · exact a3
        · rfl
        · show uN (L'.1 4 + 1) ≤ _; omega
        · show ∀ j, s ≤ j → j < s + uN (L'.1 4 + 1) → Gv g (f2 j)
          rw [e4]
          intro j j1 j2
          exact q4 j j1 (by omega)
  have b1 : ∀ (m : Nat) (L' : LV), L'.1 2 = L.1 2 → L'.1 3 = L.1 3 → uN (L'.1 4) + m = s + n → Tm (fun k => y_X0_setOf__z20 k 1 L' σ) (SeO g t σ s n) := by
    intro m
    induction m with
    | zero =>
      intro L' a2 a3 a4
      refine Tm_suc (fun k => by rw [y_X0_setOf__z20]) ?_
      refine Tm_yes (by rw [a2, a3, u_le (by omega) (by omega)]; omega) ?_
      refine Tm_suc (fun k => by rw [y_X0_setOf__z20]) ?_
      have q := b4 n (lI (lI (lI L' 4 0) 5 1) 6 0) (σ.2.2.1 20) a2 a3 (by show 0 + n = n; omega) (Nat.le_refl _) (fun _ _ => rfl) (fun j j1 j2 => absurd j2 (by show ¬ j < s + 0; omega))
      rw [uF_id] at q
      exact q
    | succ m ih =>
      intro L' a2 a3 a4
      refine Tm_suc (fun k => by rw [y_X0_setOf__z20]) ?_
      refine Tm_ite (fun c => absurd c (by rw [a2, a3, u_le (by omega) (by omega)]; omega)) (fun _ => ?_)
      refine Tm_chk (u_in (by omega) (by omega)) ?_
      refine Tm_ite (fun _ => Tm_some ⟨σ.2.2.1 20, fun _ _ => rfl, ?_⟩) (fun _ => ?_)
      · rw [uF_id]
        exact Va_e h (AXf_r σ) (by show 4026531840 ≤ uN (-268435453) ∧ ¬ uN (-268435453) % 16 = 0; decide)
      · refine Tm_suc (fun k => by rw [y_X0_setOf__z20]) ?_
        refine ih _ ?_ ?_ ?_
        · exact a2
        · exact a3
        · show uN (L'.1 4 + 1) + m = _
          rw [u_inc (by omega)]; omega
  refine Tm_suc (fun k => by rw [y_X0_setOf__z20]) ?_
  refine b1 n _ ?_ ?_ ?_
  · rfl
  · rfl
  · show uN (L.1 2) + n = s + n; omega
end CSC
