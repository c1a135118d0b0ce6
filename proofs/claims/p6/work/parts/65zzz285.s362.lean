/-! The class: a value put among others in order (two rows: S362.tpl). -/
section CRZ
variable {g g' g2 : Nat → Prop} {l l' l2 : List Nat} {t t' t2 : Nat} {σ σ' σ2 : CS} {L : LV} {x y i : Int32} {M M' : Nat → Int32}
/-- what insert leaves: nothing, or one value more from s on, what stood behind moved up to e -/
def InO16 (g : Nat → Prop) (σ : CS) (s n e : Nat) (r : Int32 × CS) : Prop := (r.1 = 0 ∧ r.2 = σ) ∨ (r.1 = 1 ∧ ∃ f, r.2 = uF σ 16 f ∧ (∀ j, j < s → f j = σ.2.2.1 16 j) ∧ (∀ j, s ≤ j → j < s + n + 1 → Gv g (f j)) ∧ (∀ j, s + n ≤ j → j < e → f (j + 1) = σ.2.2.1 16 j) ∧ (∀ j, e < j → f j = σ.2.2.1 16 j))
theorem c_insert16 (h : HQ g l t σ) (hN : 2048 ≤ 1000000000) {s n e : Nat} (h2 : uN (L.1 2) = s) (h3 : uN (L.1 3) = n) (h4 : uN (L.1 4) = e) (he : s + n ≤ e) (he2 : e + 1 ≤ 2048) (hv : ∀ j, s ≤ j → j < s + n → Gv g (σ.2.2.1 16 j)) (hx : Gv g (L.1 5)) : Tm (fun k => y_X0_insert__a16 k 0 L σ) (InO16 g σ s n e) := by
  have e23 : uN (L.1 2 + L.1 3) = s + n := by rw [u_add (by omega), h2, h3]
  have b6 : ∀ L' : LV, L'.1 4 = L.1 4 → L'.1 5 = L.1 5 → s ≤ uN (L'.1 6) → uN (L'.1 6) ≤ s + n → Tm (fun k => y_X0_insert__a16 k 6 L' σ) (InO16 g σ s n e) := by
    intro L' a4 a5 p1 p2
    have e1 : uN (L'.1 6 + 1) = uN (L'.1 6) + 1 := u_inc (by omega)
    have e2 : uN (L'.1 4 - L'.1 6) = e - uN (L'.1 6) := by rw [a4, u_sub (by omega), h4]
    refine Tm_suc (fun k => by rw [y_X0_insert__a16]) ?_
    refine Tm_chk ⟨by rw [u_neg]; omega, by rw [u_neg]; omega, by rw [u_neg]; omega, by rw [u_cl (by omega), u_cl (by omega), e2]; omega, by rw [u_cl (by omega), u_cl (by omega), e1, e2]; omega⟩ ?_
    refine Tm_chk (u_in (by show uN (L'.1 6) < 2048; omega) (by show 2048 ≤ 2147483648; omega)) ?_
    rw [uF_a]
    refine Tm_some (Or.inr ⟨rfl, _, rfl, ?_⟩)
    rw [u_cl (x := L'.1 6) (by omega), u_cl (x := L'.1 6 + 1) (by omega), u_cl (x := L'.1 4 - L'.1 6) (by omega), e1, e2, a5]
    refine ⟨fun j hj => ?_, fun j hj1 hj2 => ?_, fun j hj1 hj2 => ?_, fun j hj => ?_⟩
    · rw [upd_other (by omega)]
      unfold va_cpy
      rw [if_neg (by omega)]
    · by_cases c : j = uN (L'.1 6)
      · rw [c, upd_same]; exact hx
      · rw [upd_other c]
        unfold va_cpy
        by_cases d : uN (L'.1 6) + 1 ≤ j ∧ j < uN (L'.1 6) + 1 + (e - uN (L'.1 6))
        · rw [if_pos d]
          exact hv _ (by omega) (by omega)
        · rw [if_neg d]
          exact hv _ hj1 (by omega)
    · rw [upd_other (by omega)]
      unfold va_cpy
      rw [if_pos ⟨by omega, by omega⟩]
      show σ.2.2.1 16 (uN (L'.1 6) + (j + 1 - (uN (L'.1 6) + 1))) = σ.2.2.1 16 j
      rw [show uN (L'.1 6) + (j + 1 - (uN (L'.1 6) + 1)) = j from by omega]
    · rw [upd_other (by omega)]
      unfold va_cpy
      rw [if_neg (by omega)]
  have b3 : ∀ L' : LV, L'.1 2 = L.1 2 → L'.1 3 = L.1 3 → L'.1 4 = L.1 4 → L'.1 5 = L.1 5 → s ≤ uN (L'.1 6) → uN (L'.1 6) ≤ s + n → Tm (fun k => y_X0_insert__a16 k 3 L' σ) (InO16 g σ s n e) := by
    intro L' a2 a3 a4 a5 p1 p2
    refine Tm_suc (fun k => by rw [y_X0_insert__a16]) ?_
    rw [a2, a3]
    refine Tm_ite (fun _ => b6 _ a4 a5 p1 p2) (fun c => ?_)
    rw [u_le (by omega) (by omega), e23] at c
    refine Tm_chk (u_in (by omega) (by omega)) ?_
    refine Tm_oc (c_same h ?_ ?_) (fun r q => ?_)
    · show Gv g (σ.2.2.1 16 (L'.1 6).toNatClampNeg)
      rw [u_cl (by omega)]
      exact hv _ p1 (by omega)
    · show Gv g (L'.1 5); rw [a5]; exact hx
    · have e : r.2 = σ := q.1
      rw [e]
      exact Tm_ite (fun _ => b6 _ a4 a5 p1 p2) (fun _ => Tm_some (Or.inl ⟨rfl, rfl⟩))
  have b2 : ∀ (m : Nat) (L' : LV), uN (L'.1 8) + m = 32 → L'.1 2 = L.1 2 → L'.1 3 = L.1 3 → L'.1 4 = L.1 4 → L'.1 5 = L.1 5 → s ≤ uN (L'.1 6) → uN (L'.1 6) ≤ s + n → uN (L'.1 7) ≤ s + n → Tm (fun k => y_X0_insert__a16 k 2 L' σ) (InO16 g σ s n e) := by
    intro m
    induction m with
    | zero =>
      intro L' a8 a2 a3 a4 a5 p1 p2 p3
      refine Tm_suc (fun k => by rw [y_X0_insert__a16]) ?_
      exact Tm_yes (by rw [u_le (by decide) (by omega)]; show 32 ≤ _; omega) (b3 _ a2 a3 a4 a5 p1 p2)
    | succ m ih =>
      intro L' a8 a2 a3 a4 a5 p1 p2 p3
      have b5 : ∀ L2 : LV, L2.1 8 = L'.1 8 → L2.1 2 = L.1 2 → L2.1 3 = L.1 3 → L2.1 4 = L.1 4 → L2.1 5 = L.1 5 → s ≤ uN (L2.1 6) → uN (L2.1 6) ≤ s + n → uN (L2.1 7) ≤ s + n → Tm (fun k => y_X0_insert__a16 k 5 L2 σ) (InO16 g σ s n e) := by
        intro L2 z8 z2 z3 z4 z5 q1 q2 q3
        refine Tm_suc (fun k => by rw [y_X0_insert__a16]) ?_
        refine ih _ ?_ ?_ ?_ ?_ ?_ ?_ ?_ ?_
        · show uN (L2.1 8 + 1) + m = 32
          rw [z8, u_inc (by omega)]; omega
        · exact z2
        · exact z3
        · exact z4
        · exact z5
        · exact q1
        · exact q2
        · exact q3
      have eh : uN ((((L'.1 6) + (L'.1 7)).toUInt32 >>> ((1 : Int32).toUInt32 &&& Int32.toUInt32 31)).toInt32) = (uN (L'.1 6) + uN (L'.1 7)) / 2 := by
        rw [u_shr1, u_add (by omega)]
      refine Tm_suc (fun k => by rw [y_X0_insert__a16]) ?_
      refine Tm_ite (fun _ => b3 _ a2 a3 a4 a5 p1 p2) (fun _ => Tm_ite (fun _ => b3 _ a2 a3 a4 a5 p1 p2) (fun c => ?_))
      rw [u_le (by omega) (by omega)] at c
      refine Tm_chk (u_in (by omega) (by omega)) ?_
      refine Tm_oc (c_compare h ?_ ?_) (fun r q => ?_)
      · show Gv g (σ.2.2.1 16 (((((L'.1 6) + (L'.1 7)).toUInt32 >>> ((1 : Int32).toUInt32 &&& Int32.toUInt32 31)).toInt32)).toNatClampNeg)
        rw [u_cl (by omega), eh]
        exact hv _ (by omega) (by omega)
      · show Gv g (L'.1 5); rw [a5]; exact hx
      · have e : r.2 = σ := q
        rw [e]
        refine Tm_ite (fun _ => ?_) (fun _ => ?_)
        · refine Tm_suc (fun k => by rw [y_X0_insert__a16]) ?_
          refine b5 _ ?_ ?_ ?_ ?_ ?_ ?_ ?_ ?_
          · rfl
          · exact a2
          · exact a3
          · exact a4
          · exact a5
          · exact p1
          · exact p2
          · show uN ((((L'.1 6) + (L'.1 7)).toUInt32 >>> ((1 : Int32).toUInt32 &&& Int32.toUInt32 31)).toInt32) ≤ _
            omega
        · refine b5 _ ?_ ?_ ?_ ?_ ?_ ?_ ?_ ?_
          · rfl
          · exact a2
          · exact a3
          · exact a4
          · exact a5
          · show s ≤ uN ((((L'.1 6) + (L'.1 7)).toUInt32 >>> ((1 : Int32).toUInt32 &&& Int32.toUInt32 31)).toInt32 + 1)
            rw [u_inc (by omega)]; omega
          · show uN ((((L'.1 6) + (L'.1 7)).toUInt32 >>> ((1 : Int32).toUInt32 &&& Int32.toUInt32 31)).toInt32 + 1) ≤ _
            rw [u_inc (by omega)]; omega
          · exact p3
  have b1 : ∀ L' : LV, L'.1 2 = L.1 2 → L'.1 3 = L.1 3 → L'.1 4 = L.1 4 → L'.1 5 = L.1 5 → s ≤ uN (L'.1 6) → uN (L'.1 6) ≤ s + n → uN (L'.1 7) ≤ s + n → Tm (fun k => y_X0_insert__a16 k 1 L' σ) (InO16 g σ s n e) := by
    intro L' a2 a3 a4 a5 p1 p2 p3
    refine Tm_suc (fun k => by rw [y_X0_insert__a16]) ?_
    refine b2 32 _ ?_ ?_ ?_ ?_ ?_ ?_ ?_ ?_
    · rfl
    · exact a2
    · exact a3
    · exact a4
    · exact a5
    · exact p1
    · exact p2
    · exact p3
  have low : Tm (fun k => y_X0_insert__a16 k 1 (lI (lI L 6 (L.1 2)) 7 (L.1 2 + L.1 3)) σ) (InO16 g σ s n e) := by
    refine b1 _ rfl rfl rfl rfl ?_ ?_ ?_
    · show s ≤ uN (L.1 2); omega
    · show uN (L.1 2) ≤ _; omega
    · show uN (L.1 2 + L.1 3) ≤ _; omega
  refine Tm_suc (fun k => by rw [y_X0_insert__a16]) ?_
  refine Tm_ite (fun _ => low) (fun c => ?_)
  rw [u_le (by omega) (by decide)] at c
  have c1 : 1 ≤ uN (L.1 3) := Nat.lt_of_not_le c
  have e1 : uN (L.1 2 + L.1 3 - 1) = s + n - 1 := by
    rw [u_sub (by rw [e23]; show 1 ≤ _; omega), e23]; rfl
  refine Tm_chk (u_in (by omega) (by omega)) ?_
  refine Tm_oc (c_compare h ?_ hx) (fun r q => ?_)
  · show Gv g (σ.2.2.1 16 (L.1 2 + L.1 3 - 1).toNatClampNeg)
    rw [u_cl (by omega), e1]
    exact hv _ (by omega) (by omega)
  · have e : r.2 = σ := q
    rw [e]
    refine Tm_ite (fun _ => low) (fun _ => ?_)
    refine b1 _ rfl rfl rfl rfl ?_ ?_ ?_
    · show s ≤ uN (L.1 2 + L.1 3); omega
    · show uN (L.1 2 + L.1 3) ≤ _; omega
    · show uN (L.1 2 + L.1 3) ≤ _; omega
/-- what insert leaves: nothing, or one value more from s on, what stood behind moved up to e -/
def InO20 (g : Nat → Prop) (σ : CS) (s n e : Nat) (r : Int32 × CS) : Prop := (r.1 = 0 ∧ r.2 = σ) ∨ (r.1 = 1 ∧ ∃ f, r.2 = uF σ 20 f ∧ (∀ j, j < s → f j = σ.2.2.1 20 j) ∧ (∀ j, s ≤ j → j < s + n + 1 → Gv g (f j)) ∧ (∀ j, s + n ≤ j → j < e → f (j + 1) = σ.2.2.1 20 j) ∧ (∀ j, e < j → f j = σ.2.2.1 20 j))
theorem c_insert20 (h : HQ g l t σ) (hN : sN σ 20 ≤ 1000000000) {s n e : Nat} (h2 : uN (L.1 2) = s) (h3 : uN (L.1 3) = n) (h4 : uN (L.1 4) = e) (he : s + n ≤ e) (he2 : e + 1 ≤ sN σ 20) (hv : ∀ j, s ≤ j → j < s + n → Gv g (σ.2.2.1 20 j)) (hx : Gv g (L.1 5)) : Tm (fun k => y_X0_insert__z20 k 0 L σ) (InO20 g σ s n e) := by
  have e23 : uN (L.1 2 + L.1 3) = s + n := by rw [u_add (by omega), h2, h3]
  have b6 : ∀ L' : LV, L'.1 4 = L.1 4 → L'.1 5 = L.1 5 → s ≤ uN (L'.1 6) → uN (L'.1 6) ≤ s + n → Tm (fun k => y_X0_insert__z20 k 6 L' σ) (InO20 g σ s n e) := by
    intro L' a4 a5 p1 p2
    have e1 : uN (L'.1 6 + 1) = uN (L'.1 6) + 1 := u_inc (by omega)
    have e2 : uN (L'.1 4 - L'.1 6) = e - uN (L'.1 6) := by rw [a4, u_sub (by omega), h4]
    refine Tm_suc (fun k => by rw [y_X0_insert__z20]) ?_
    refine Tm_chk ⟨by rw [u_neg]; omega, by rw [u_neg]; omega, by rw [u_neg]; omega, by rw [u_cl (by omega), u_cl (by omega), e2]; omega, by rw [u_cl (by omega), u_cl (by omega), e1, e2]; omega⟩ ?_
    refine Tm_chk (u_in (by show uN (L'.1 6) < sN σ 20; omega) (by show sN σ 20 ≤ 2147483648; omega)) ?_
    rw [uF_a]
    refine Tm_some (Or.inr ⟨rfl, _, rfl, ?_⟩)
    rw [u_cl (x := L'.1 6) (by omega), u_cl (x := L'.1 6 + 1) (by omega), u_cl (x := L'.1 4 - L'.1 6) (by omega), e1, e2, a5]
    refine ⟨fun j hj => ?_, fun j hj1 hj2 => ?_, fun j hj1 hj2 => ?_, fun j hj => ?_⟩
    · rw [upd_other (by omega)]
      unfold va_cpy
      rw [if_neg (by omega)]
    · by_cases c : j = uN (L'.1 6)
      · rw [c, upd_same]; exact hx
      · rw [upd_other c]
        unfold va_cpy
        by_cases d : uN (L'.1 6) + 1 ≤ j ∧ j < uN (L'.1 6) + 1 + (e - uN (L'.1 6))
        · rw [if_pos d]
          exact hv _ (by omega) (by omega)
        · rw [if_neg d]
          exact hv _ hj1 (by omega)
    · rw [upd_other (by omega)]
      unfold va_cpy
      rw [if_pos ⟨by omega, by omega⟩]
      show σ.2.2.1 20 (uN (L'.1 6) + (j + 1 - (uN (L'.1 6) + 1))) = σ.2.2.1 20 j
      rw [show uN (L'.1 6) + (j + 1 - (uN (L'.1 6) + 1)) = j from by omega]
    · rw [upd_other (by omega)]
      unfold va_cpy
      rw [if_neg (by omega)]
  have b3 : ∀ L' : LV, L'.1 2 = L.1 2 → L'.1 3 = L.1 3 → L'.1 4 = L.1 4 → L'.1 5 = L.1 5 → s ≤ uN (L'.1 6) → uN (L'.1 6) ≤ s + n → Tm (fun k => y_X0_insert__z20 k 3 L' σ) (InO20 g σ s n e) := by
    intro L' a2 a3 a4 a5 p1 p2
    refine Tm_suc (fun k => by rw [y_X0_insert__z20]) ?_
    rw [a2, a3]
    refine Tm_ite (fun _ => b6 _ a4 a5 p1 p2) (fun c => ?_)
    rw [u_le (by omega) (by omega), e23] at c
    refine Tm_chk (u_in (by omega) (by omega)) ?_
    refine Tm_oc (c_same h ?_ ?_) (fun r q => ?_)
    · show Gv g (σ.2.2.1 20 (L'.1 6).toNatClampNeg)
      rw [u_cl (by omega)]
      exact hv _ p1 (by omega)
    · show Gv g (L'.1 5); rw [a5]; exact hx
    · have e : r.2 = σ := q.1
      rw [e]
      exact Tm_ite (fun _ => b6 _ a4 a5 p1 p2) (fun _ => Tm_some (Or.inl ⟨rfl, rfl⟩))
  have b2 : ∀ (m : Nat) (L' : LV), uN (L'.1 8) + m = 32 → L'.1 2 = L.1 2 → L'.1 3 = L.1 3 → L'.1 4 = L.1 4 → L'.1 5 = L.1 5 → s ≤ uN (L'.1 6) → uN (L'.1 6) ≤ s + n → uN (L'.1 7) ≤ s + n → Tm (fun k => y_X0_insert__z20 k 2 L' σ) (InO20 g σ s n e) := by
    intro m
    induction m with
    | zero =>
      intro L' a8 a2 a3 a4 a5 p1 p2 p3
      refine Tm_suc (fun k => by rw [y_X0_insert__z20]) ?_
      exact Tm_yes (by rw [u_le (by decide) (by omega)]; show 32 ≤ _; omega) (b3 _ a2 a3 a4 a5 p1 p2)
    | succ m ih =>
      intro L' a8 a2 a3 a4 a5 p1 p2 p3
      have b5 : ∀ L2 : LV, L2.1 8 = L'.1 8 → L2.1 2 = L.1 2 → L2.1 3 = L.1 3 → L2.1 4 = L.1 4 → L2.1 5 = L.1 5 → s ≤ uN (L2.1 6) → uN (L2.1 6) ≤ s + n → uN (L2.1 7) ≤ s + n → Tm (fun k => y_X0_insert__z20 k 5 L2 σ) (InO20 g σ s n e) := by
        intro L2 z8 z2 z3 z4 z5 q1 q2 q3
        refine Tm_suc (fun k => by rw [y_X0_insert__z20]) ?_
        refine ih _ ?_ ?_ ?_ ?_ ?_ ?_ ?_ ?_
        · show uN (L2.1 8 + 1) + m = 32
          rw [z8, u_inc (by omega)]; omega
        · exact z2
        · exact z3
        · exact z4
        · exact z5
        · exact q1
        · exact q2
        · exact q3
      have eh : uN ((((L'.1 6) + (L'.1 7)).toUInt32 >>> ((1 : Int32).toUInt32 &&& Int32.toUInt32 31)).toInt32) = (uN (L'.1 6) + uN (L'.1 7)) / 2 := by
        rw [u_shr1, u_add (by omega)]
      refine Tm_suc (fun k => by rw [y_X0_insert__z20]) ?_
      refine Tm_ite (fun _ => b3 _ a2 a3 a4 a5 p1 p2) (fun _ => Tm_ite (fun _ => b3 _ a2 a3 a4 a5 p1 p2) (fun c => ?_))
      rw [u_le (by omega) (by omega)] at c
      refine Tm_chk (u_in (by omega) (by omega)) ?_
      refine Tm_oc (c_compare h ?_ ?_) (fun r q => ?_)
      · show Gv g (σ.2.2.1 20 (((((L'.1 6) + (L'.1 7)).toUInt32 >>> ((1 : Int32).toUInt32 &&& Int32.toUInt32 31)).toInt32)).toNatClampNeg)
        rw [u_cl (by omega), eh]
        exact hv _ (by omega) (by omega)
      · show Gv g (L'.1 5); rw [a5]; exact hx
      · have e : r.2 = σ := q
        rw [e]
        refine Tm_ite (fun _ => ?_) (fun _ => ?_)
        · refine Tm_suc (fun k => by rw [y_X0_insert__z20]) ?_
          refine b5 _ ?_ ?_ ?_ ?_ ?_ ?_ ?_ ?_
          · rfl
          · exact a2
          · exact a3
          · exact a4
          · exact a5
          · exact p1
          · exact p2
          · show uN ((((L'.1 6) + (L'.1 7)).toUInt32 >>> ((1 : Int32).toUInt32 &&& Int32.toUInt32 31)).toInt32) ≤ _
            omega
        · refine b5 _ ?_ ?_ ?_ ?_ ?_ ?_ ?_ ?_
          · rfl
          · exact a2
          · exact a3
          · exact a4
          · exact a5
          · show s ≤ uN ((((L'.1 6) + (L'.1 7)).toUInt32 >>> ((1 : Int32).toUInt32 &&& Int32.toUInt32 31)).toInt32 + 1)
            rw [u_inc (by omega)]; omega
          · show uN ((((L'.1 6) + (L'.1 7)).toUInt32 >>> ((1 : Int32).toUInt32 &&& Int32.toUInt32 31)).toInt32 + 1) ≤ _
            rw [u_inc (by omega)]; omega
          · exact p3
  have b1 : ∀ L' : LV, L'.1 2 = L.1 2 → L'.1 3 = L.1 3 → L'.1 4 = L.1 4 → L'.1 5 = L.1 5 → s ≤ uN (L'.1 6) → uN (L'.1 6) ≤ s + n → uN (L'.1 7) ≤ s + n → Tm (fun k => y_X0_insert__z20 k 1 L' σ) (InO20 g σ s n e) := by
    intro L' a2 a3 a4 a5 p1 p2 p3
    refine Tm_suc (fun k => by rw [y_X0_insert__z20]) ?_
    refine b2 32 _ ?_ ?_ ?_ ?_ ?_ ?_ ?_ ?_
    · rfl
    · exact a2
    · exact a3
    · exact a4
    · exact a5
    · exact p1
    · exact p2
    · exact p3
  have low : Tm (fun k => y_X0_insert__z20 k 1 (lI (lI L 6 (L.1 2)) 7 (L.1 2 + L.1 3)) σ) (InO20 g σ s n e) := by
    refine b1 _ rfl rfl rfl rfl ?_ ?_ ?_
    · show s ≤ uN (L.1 2); omega
    · show uN (L.1 2) ≤ _; omega
    · show uN (L.1 2 + L.1 3) ≤ _; omega
  refine Tm_suc (fun k => by rw [y_X0_insert__z20]) ?_
  refine Tm_ite (fun _ => low) (fun c => ?_)
  rw [u_le (by omega) (by decide)] at c
  have c1 : 1 ≤ uN (L.1 3) := Nat.lt_of_not_le c
  have e1 : uN (L.1 2 + L.1 3 - 1) = s + n - 1 := by
    rw [u_sub (by rw [e23]; show 1 ≤ _; omega), e23]; rfl
  refine Tm_chk (u_in (by omega) (by omega)) ?_
  refine Tm_oc (c_compare h ?_ hx) (fun r q => ?_)
  · show Gv g (σ.2.2.1 20 (L.1 2 + L.1 3 - 1).toNatClampNeg)
    rw [u_cl (by omega), e1]
    exact hv _ (by omega) (by omega)
  · have e : r.2 = σ := q
    rw [e]
    refine Tm_ite (fun _ => low) (fun _ => ?_)
    refine b1 _ rfl rfl rfl rfl ?_ ?_ ?_
    · show s ≤ uN (L.1 2 + L.1 3); omega
    · show uN (L.1 2 + L.1 3) ≤ _; omega
    · show uN (L.1 2 + L.1 3) ≤ _; omega
theorem c_range (h : HQ g l t σ) (hx : MpV g σ (L.1 1)) : Tm (fun k => y_X0_range k 0 L σ) (Va g t σ) := by
  have ll := lnC_lt (σ.2.2.1 3) (L.1 1)
  have lm : lnC (σ.2.2.1 3) (L.1 1) ≤ 999 := by
    have k6 := hx.2.2.1
    unfold kdC at k6
    rw [if_pos hx.2.1] at k6
    have q := (HQ_c h (Gv_c hx.1 hx.2.1).2).2.2.2.2.2.2.2.2.2.1 (by omega)
    unfold lnC
    rw [if_pos hx.2.1]
    exact q.1
  have b2 : ∀ (L' : LV) (σ' : CS), AXf σ σ' → uN (L'.1 2) ≤ 2048 → (∀ j, j < uN (L'.1 2) → Gv g (σ'.2.2.1 16 j)) → Tm (fun k => y_X0_range k 2 L' σ') (Va g t σ) := by
    intro L' σ' w a4 hr
    refine Tm_suc (fun k => by rw [y_X0_range]) ?_
    exact Tm_oc (mk16 (n := 0) h w (Or.inr rfl) rfl rfl a4 hr) (fun r z => Tm_some z)
  have b1 : ∀ (m : Nat) (L' : LV) (σ' : CS), AXf σ σ' → L'.1 1 = L.1 1 → uN (L'.1 3) + m = lnC (σ.2.2.1 3) (L.1 1) → uN (L'.1 2) ≤ uN (L'.1 3) → (∀ j, j < uN (L'.1 2) → Gv g (σ'.2.2.1 16 j)) → Tm (fun k => y_X0_range k 1 L' σ') (Va g t σ) := by
    intro m
    induction m with
    | zero =>
      intro L' σ' w a1 a3 a2 hr
      have r3 : σ'.2.2.1 3 = σ.2.2.1 3 := w.2.2.1 3 (by decide)
      refine Tm_suc (fun k => by rw [y_X0_range]) ?_
      refine Tm_ocE (c_length (HQ_X h w) (by show Gv g (L'.1 1); rw [a1]; exact hx.1)) ?_
      refine Tm_yes ?_ (b2 _ _ w (by omega) hr)
      show nI (lnC (σ'.2.2.1 3) (L'.1 1)) ≤ L'.1 3
      rw [r3, a1, u_le (by rw [u_n (by omega)]; omega) (by omega), u_n (by omega)]
      omega
    | succ m ih =>
      intro L' σ' w a1 a3 a2 hr
      have h' := HQ_X h w
      have hx' : MpV g σ' (L'.1 1) := MpV_X w (by rw [a1]; exact hx)
      have sx' := MpV_s hx'
      have sp := mp_sq h' hx' (L'.1 3)
      refine Tm_suc (fun k => by rw [y_X0_range]) ?_
      refine Tm_ocE (c_length h' sx'.1) ?_
      refine Tm_ite (fun _ => b2 _ _ w (by omega) hr) (fun _ => Tm_ite (fun _ => b2 _ _ w (by omega) hr) (fun c => ?_))
      refine Tm_ocE (c_member h' sx'.1 sx'.2) ?_
      refine Tm_ocE (c_member h' sp.1 sp.2) ?_
      refine Tm_oc (c_insert16 (s := 0) (n := uN (L'.1 2)) (e := uN (L'.1 2)) h' (by decide) rfl rfl rfl (by omega) (by omega) (fun j _ hj => hr j (by omega)) (mbC_g h' sp.1 sp.2)) (fun r q => ?_)
      have b3 : ∀ (L2 : LV) (σ2 : CS), AXf σ σ2 → L2.1 1 = L.1 1 → L2.1 3 = L'.1 3 → uN (L2.1 2) ≤ uN (L'.1 3) + 1 → (∀ j, j < uN (L2.1 2) → Gv g (σ2.2.2.1 16 j)) → Tm (fun k => y_X0_range k 3 L2 σ2) (Va g t σ) := by
        intro L2 σ2 w2 z1 z3 z2 zr
        have e3 : uN (L2.1 3 + 1) = uN (L'.1 3) + 1 := by rw [z3, u_inc (by omega)]
        refine Tm_suc (fun k => by rw [y_X0_range]) ?_
        refine ih _ _ w2 ?_ ?_ ?_ ?_
        · exact z1
        · show uN (L2.1 3 + 1) + m = _; omega
        · show uN (L2.1 2) ≤ uN (L2.1 3 + 1); omega
        · exact zr
      rcases q with ⟨q1, q2⟩ | ⟨q1, f, q2, q3, q4, q5, q6⟩
      · rw [q2]
        refine Tm_ite (fun _ => b3 _ _ w a1 rfl (by omega) hr) (fun z => absurd q1 z)
      · rw [q2]
        refine Tm_ite (fun z => absurd (z.symm.trans q1) (by decide)) (fun _ => ?_)
        have e2 : uN (L'.1 2 + 1) = uN (L'.1 2) + 1 := u_inc (by omega)
        refine b3 _ _ (AXf_t w (AXf_F σ' (by decide) f)) ?_ ?_ ?_ ?_
        · exact a1
        · rfl
        · show uN (L'.1 2 + 1) ≤ _; omega
        · show ∀ j, j < uN (L'.1 2 + 1) → Gv g (f j)
          rw [e2]
          intro j hj
          exact q4 j (by omega) (by omega)
  refine Tm_suc (fun k => by rw [y_X0_range]) ?_
  refine b1 (lnC (σ.2.2.1 3) (L.1 1)) _ _ (AXf_r σ) ?_ ?_ ?_ ?_
  · rfl
  · show 0 + _ = _; omega
  · exact Nat.le_refl _
  · intro j hj; exact absurd hj (Nat.not_lt_zero j)
end CRZ
