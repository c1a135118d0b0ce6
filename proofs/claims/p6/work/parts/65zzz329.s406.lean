/-! The class: one more of a set that is gathered. -/
section CTR
variable {g g' g2 : Nat → Prop} {l l' l2 : List Nat} {t t' t2 : Nat} {σ σ' σ2 : CS} {L : LV} {x y i : Int32} {M M' U U' : Nat → Int32} {K K' K2 K2' K3 K4 K4' KB : Nat → Option Int32} {c : Ct} {B f0 u0 : Nat} {fs : List FrT} {u d : Nat} {r r' : List Nat} {pb nf nc sq rk : Nat}
/-- whatever the first is -/
theorem c_compareW (h : HQ g l t σ) (hx : Gw g (L.1 1)) (hy : Gv g (L.1 2)) : Tm (fun k => y_X1_compare k 0 L σ) (fun r => r.2 = σ) := by
  rcases hx with hx | hx
  · exact Tm_mono (c_compare h hx hy) (fun r q => q)
  · have hx' : 4026531840 ≤ uN (L.1 1) := hx
    have b8 : ∀ L' : LV, Tm (fun k => y_H1 k 60 0 8 L' σ) (fun r => r.2 = σ) := fun L' => Tm_suc (fun k => h1_8 k _ _ _) (Tm_some rfl)
    have b7 : ∀ L' : LV, Tm (fun k => y_H1 k 60 0 7 L' σ) (fun r => r.2 = σ) := fun L' => Tm_suc (fun k => h1_7 k _ _ _) (b8 _)
    have b11 : ∀ L' : LV, Tm (fun k => y_H1 k 60 0 11 L' σ) (fun r => r.2 = σ) := fun L' => Tm_suc (fun k => h1_11 k _ _ _) (Tm_some rfl)
    have b10 : ∀ L' : LV, Tm (fun k => y_H1 k 60 0 10 L' σ) (fun r => r.2 = σ) := fun L' => Tm_suc (fun k => h1_10 k _ _ _) (b11 _)
    have n1 : ¬ (0 : Int32) ≤ L.1 1 := by rw [u_nn]; omega
    have e7 : uN (L.1 1) / 268435456 % 8 = 7 := by have := u_lt (L.1 1); omega
    have b5 : ∀ L' : LV, L'.1 1 = L.1 1 → L'.1 2 = L.1 2 → L'.1 3 = nI 7 → (uN (L.1 2) < 2147483648 → ¬ L'.1 100 = nI 7) → Tm (fun k => y_H1 k 60 0 5 L' σ) (fun r => r.2 = σ) := by
      intro L' l1 l2 l3 l100
      refine Tm_suc (fun k => h1_5 k _ _ _) ?_
      refine Tm_ite (fun q => ?_) (fun _ => Tm_ite (fun _ => b7 _) (fun _ => b8 _))
      refine Tm_suc (fun k => h1_6 k _ _ _) ?_
      rw [l1, l2]
      refine Tm_no n1 ?_
      have n2 : ¬ (0 : Int32) ≤ L.1 2 := by
        rw [u_nn]
        intro lt
        exact l100 lt (by rw [← q]; exact l3)
      refine Tm_no n2 ?_
      exact Tm_ite (fun _ => b10 _) (fun _ => b11 _)
    show Tm (fun k => y_H1 k 60 0 0 L σ) _
    refine Tm_suc (fun k => h1_0 k _ _ _) ?_
    refine Tm_ite (fun _ => Tm_some rfl) (fun _ => ?_)
    refine Tm_suc (fun k => h1_1 k _ _ _) ?_
    refine Tm_no n1 ?_
    refine Tm_suc (fun k => h1_3 k _ _ _) ?_
    have k7 : (((((L.1 1).toUInt32 >>> ((28 : Int32).toUInt32 &&& Int32.toUInt32 31)).toInt32)) &&& 7) = nI 7 := by rw [e_imm, e7]
    refine Tm_ite (fun c2 => ?_) (fun c2 => ?_)
    · have c2' : (0 : Int32) ≤ L.1 2 := c2
      rw [u_nn] at c2'
      refine Tm_suc (fun k => h1_4 k _ _ _) ?_
      refine Tm_chk (in_g h hy c2') ?_
      refine b5 _ rfl rfl k7 (fun lt => ?_)
      show ¬ (σ.2.2.1 3 (L.1 2).toNatClampNeg &&& 7) = nI 7
      have cg := (HQ_c h (Gv_c hy c2').2).2.2.2.2.2.2.1
      rw [e_knd, u_cl (by omega), u_eq, u_n (by omega), u_n (by omega)]
      omega
    · have c2' : ¬ (0 : Int32) ≤ L.1 2 := c2
      rw [u_nn] at c2'
      exact b5 _ rfl rfl k7 (fun lt => absurd lt c2')
theorem c_sameW (h : HQ g l t σ) (hx : Gw g (L.1 1)) (hy : Gv g (L.1 2)) : Tm (fun k => y_X1_same k 0 L σ) (fun r => r.2 = σ ∧ (r.1 = 0 ∨ r.1 = 1)) := by
  have b1 : Tm (fun k => y_X1_same k 1 L σ) (fun r => r.2 = σ ∧ (r.1 = 0 ∨ r.1 = 1)) := by
    refine Tm_suc (fun k => by rw [y_X1_same]) ?_
    refine Tm_suc (fun k => by rw [y_X1_same]) ?_
    refine Tm_chk (Or.inr rfl) ?_
    exact Tm_some ⟨rfl, Or.inr rfl⟩
  have b2 : Tm (fun k => y_X1_same k 2 L σ) (fun r => r.2 = σ ∧ (r.1 = 0 ∨ r.1 = 1)) := by
    refine Tm_suc (fun k => by rw [y_X1_same]) ?_
    refine Tm_suc (fun k => by rw [y_X1_same]) ?_
    refine Tm_chk (Or.inl rfl) ?_
    exact Tm_some ⟨rfl, Or.inl rfl⟩
  refine Tm_suc (fun k => by rw [y_X1_same]) ?_
  refine Tm_ite (fun _ => b1) (fun _ => Tm_ite (fun _ => b2) (fun c1 => Tm_ite (fun _ => b2) (fun c2 => ?_)))
  rw [u_neg] at c1 c2
  refine Tm_chk (in_g h (Or.inr (Gw_c hx (by omega))) (by omega)) ?_
  refine Tm_chk (in_g h hy (by omega)) ?_
  refine Tm_ite (fun _ => ?_) (fun _ => b2)
  refine Tm_oc (c_compareW h hx hy) (fun r hr => ?_)
  have e : r.2 = σ := hr
  rw [e]
  exact Tm_ite (fun _ => b1) (fun _ => b2)
def InO20W (g : Nat → Prop) (σ : CS) (s n e : Nat) (r : Int32 × CS) : Prop := (r.1 = 0 ∧ r.2 = σ) ∨ (r.1 = 1 ∧ ∃ f, r.2 = uF σ 20 f ∧ (∀ j, j < s → f j = σ.2.2.1 20 j) ∧ (∀ j, s ≤ j → j < s + n + 1 → Gw g (f j)) ∧ (∀ j, s + n ≤ j → j < e → f (j + 1) = σ.2.2.1 20 j) ∧ (∀ j, e < j → f j = σ.2.2.1 20 j))
theorem c_insert20W (h : HQ g l t σ) (hN : sN σ 20 ≤ 1000000000) {s n e : Nat} (h2 : uN (L.1 2) = s) (h3 : uN (L.1 3) = n) (h4 : uN (L.1 4) = e) (he : s + n ≤ e) (he2 : e + 1 ≤ sN σ 20) (hv : ∀ j, s ≤ j → j < s + n → Gw g (σ.2.2.1 20 j)) (hx : Gv g (L.1 5)) : Tm (fun k => y_X0_insert__z20 k 0 L σ) (InO20W g σ s n e) := by
  have e23 : uN (L.1 2 + L.1 3) = s + n := by rw [u_add (by omega), h2, h3]
  have b6 : ∀ L' : LV, L'.1 4 = L.1 4 → L'.1 5 = L.1 5 → s ≤ uN (L'.1 6) → uN (L'.1 6) ≤ s + n → Tm (fun k => y_X0_insert__z20 k 6 L' σ) (InO20W g σ s n e) := by
    intro L' a4 a5 p1 p2
    have e1 : uN (L'.1 6 + 1) = uN (L'.1 6) + 1 := u_inc (by omega)
    have e2 : uN (L'.1 4 - L'.1 6) = e - uN (L'.1 6) := by rw [a4, u_sub (by omega), h4]
    refine Tm_suc (fun k => by rw [y_X0_insert__z20]) ?_
    refine Tm_chk ⟨by rw [u_neg]; omega, by rw [u_neg]; omega, by rw [u_neg]; omega, by rw [u_cl (by omega), u_cl (by omega), e2]; omega, by rw [u_cl (by omega), u_cl (by omega), e1, e2]; omega⟩ ?_
    refine Tm_chk (u_in (by show uN (L'.1 6) < sN σ 20; omega) (by show sN σ 20 ≤ 2147483648; omega)) ?_
    rw [uF_a]
    refine Tm_some (Or.inr ⟨rfl, _, rfl, ?_⟩)
    rw [u_cl (x := L'.1 6) (by omega), u_cl (x := L'.1 6 + 1) (by omega), u_cl (x := L'.1 4 - L'.1 6) (by omega), e1, e2, a5]
    refine ⟨fun j hj => ?_, fun j hj1 hj2 => ?_, fun j hj1 hj2 => ?_, fun j hj => ?_⟩
    · rw [upd_other (by omega)]
      unfold va_cpy
      rw [if_neg (by omega)]
    · by_cases c : j = uN (L'.1 6)
      · rw [c, upd_same]; exact Or.inl hx
      · rw [upd_other c]
        unfold va_cpy
        by_cases d : uN (L'.1 6) + 1 ≤ j ∧ j < uN (L'.1 6) + 1 + (e - uN (L'.1 6))
        · rw [if_pos d]
          exact hv _ (by omega) (by omega)
        · rw [if_neg d]
          exact hv _ hj1 (by omega)
    · rw [upd_other (by omega)]
      unfold va_cpy
      rw [if_pos ⟨by omega, by omega⟩]
      show σ.2.2.1 20 (uN (L'.1 6) + (j + 1 - (uN (L'.1 6) + 1))) = σ.2.2.1 20 j
      rw [show uN (L'.1 6) + (j + 1 - (uN (L'.1 6) + 1)) = j from by omega]
    · rw [upd_other (by omega)]
      unfold va_cpy
      rw [if_neg (by omega)]
  have b3 : ∀ L' : LV, L'.1 2 = L.1 2 → L'.1 3 = L.1 3 → L'.1 4 = L.1 4 → L'.1 5 = L.1 5 → s ≤ uN (L'.1 6) → uN (L'.1 6) ≤ s + n → Tm (fun k => y_X0_insert__z20 k 3 L' σ) (InO20W g σ s n e) := by
    intro L' a2 a3 a4 a5 p1 p2
    refine Tm_suc (fun k => by rw [y_X0_insert__z20]) ?_
    rw [a2, a3]
    refine Tm_ite (fun _ => b6 _ a4 a5 p1 p2) (fun c => ?_)
    rw [u_le (by omega) (by omega), e23] at c
    refine Tm_chk (u_in (by omega) (by omega)) ?_
    refine Tm_oc (c_sameW h ?_ ?_) (fun r q => ?_)
    · show Gw g (σ.2.2.1 20 (L'.1 6).toNatClampNeg)
      rw [u_cl (by omega)]
      exact hv _ p1 (by omega)
    · show Gv g (L'.1 5); rw [a5]; exact hx
    · have e : r.2 = σ := q.1
      rw [e]
      exact Tm_ite (fun _ => b6 _ a4 a5 p1 p2) (fun _ => Tm_some (Or.inl ⟨rfl, rfl⟩))
  have b2 : ∀ (m : Nat) (L' : LV), uN (L'.1 8) + m = 32 → L'.1 2 = L.1 2 → L'.1 3 = L.1 3 → L'.1 4 = L.1 4 → L'.1 5 = L.1 5 → s ≤ uN (L'.1 6) → uN (L'.1 6) ≤ s + n → uN (L'.1 7) ≤ s + n → Tm (fun k => y_X0_insert__z20 k 2 L' σ) (InO20W g σ s n e) := by
    intro m
    induction m with
    | zero =>
      intro L' a8 a2 a3 a4 a5 p1 p2 p3
      refine Tm_suc (fun k => by rw [y_X0_insert__z20]) ?_
      exact Tm_yes (by rw [u_le (by decide) (by omega)]; show 32 ≤ _; omega) (b3 _ a2 a3 a4 a5 p1 p2)
    | succ m ih =>
      intro L' a8 a2 a3 a4 a5 p1 p2 p3
      have b5 : ∀ L2 : LV, L2.1 8 = L'.1 8 → L2.1 2 = L.1 2 → L2.1 3 = L.1 3 → L2.1 4 = L.1 4 → L2.1 5 = L.1 5 → s ≤ uN (L2.1 6) → uN (L2.1 6) ≤ s + n → uN (L2.1 7) ≤ s + n → Tm (fun k => y_X0_insert__z20 k 5 L2 σ) (InO20W g σ s n e) := by
        intro L2 z8 z2 z3 z4 z5 q1 q2 q3
        refine Tm_suc (fun k => by rw [y_X0_insert__z20]) ?_
        refine ih _ ?_ ?_ ?_ ?_ ?_ ?_ ?_ ?_
        · show uN (L2.1 8 + 1) + m = 32
          rw [z8, u_inc (by omega)]; omega
        · exact z2
        · exact z3
        · exact z4
        · exact z5
        · exact q1
        · exact q2
        · exact q3
      have eh : uN ((((L'.1 6) + (L'.1 7)).toUInt32 >>> ((1 : Int32).toUInt32 &&& Int32.toUInt32 31)).toInt32) = (uN (L'.1 6) + uN (L'.1 7)) / 2 := by
        rw [u_shr1, u_add (by omega)]
      refine Tm_suc (fun k => by rw [y_X0_insert__z20]) ?_
      refine Tm_ite (fun _ => b3 _ a2 a3 a4 a5 p1 p2) (fun _ => Tm_ite (fun _ => b3 _ a2 a3 a4 a5 p1 p2) (fun c => ?_))
      rw [u_le (by omega) (by omega)] at c
      refine Tm_chk (u_in (by omega) (by omega)) ?_
      refine Tm_oc (c_compareW h ?_ ?_) (fun r q => ?_)
      · show Gw g (σ.2.2.1 20 (((((L'.1 6) + (L'.1 7)).toUInt32 >>> ((1 : Int32).toUInt32 &&& Int32.toUInt32 31)).toInt32)).toNatClampNeg)
        rw [u_cl (by omega), eh]
        exact hv _ (by omega) (by omega)
      · show Gv g (L'.1 5); rw [a5]; exact hx
      · have e : r.2 = σ := q
        rw [e]
        refine Tm_ite (fun _ => ?_) (fun _ => ?_)
        · refine Tm_suc (fun k => by rw [y_X0_insert__z20]) ?_
          refine b5 _ ?_ ?_ ?_ ?_ ?_ ?_ ?_ ?_
          · rfl
          · exact a2
          · exact a3
          · exact a4
          · exact a5
          · exact p1
          · exact p2
          · show uN ((((L'.1 6) + (L'.1 7)).toUInt32 >>> ((1 : Int32).toUInt32 &&& Int32.toUInt32 31)).toInt32) ≤ _
            omega
        · refine b5 _ ?_ ?_ ?_ ?_ ?_ ?_ ?_ ?_
          · rfl
          · exact a2
          · exact a3
          · exact a4
          · exact a5
          · show s ≤ uN ((((L'.1 6) + (L'.1 7)).toUInt32 >>> ((1 : Int32).toUInt32 &&& Int32.toUInt32 31)).toInt32 + 1)
            rw [u_inc (by omega)]; omega
          · show uN ((((L'.1 6) + (L'.1 7)).toUInt32 >>> ((1 : Int32).toUInt32 &&& Int32.toUInt32 31)).toInt32 + 1) ≤ _
            rw [u_inc (by omega)]; omega
          · exact p3
  have b1 : ∀ L' : LV, L'.1 2 = L.1 2 → L'.1 3 = L.1 3 → L'.1 4 = L.1 4 → L'.1 5 = L.1 5 → s ≤ uN (L'.1 6) → uN (L'.1 6) ≤ s + n → uN (L'.1 7) ≤ s + n → Tm (fun k => y_X0_insert__z20 k 1 L' σ) (InO20W g σ s n e) := by
    intro L' a2 a3 a4 a5 p1 p2 p3
    refine Tm_suc (fun k => by rw [y_X0_insert__z20]) ?_
    refine b2 32 _ ?_ ?_ ?_ ?_ ?_ ?_ ?_ ?_
    · rfl
    · exact a2
    · exact a3
    · exact a4
    · exact a5
    · exact p1
    · exact p2
    · exact p3
  have low : Tm (fun k => y_X0_insert__z20 k 1 (lI (lI L 6 (L.1 2)) 7 (L.1 2 + L.1 3)) σ) (InO20W g σ s n e) := by
    refine b1 _ rfl rfl rfl rfl ?_ ?_ ?_
    · show s ≤ uN (L.1 2); omega
    · show uN (L.1 2) ≤ _; omega
    · show uN (L.1 2 + L.1 3) ≤ _; omega
  refine Tm_suc (fun k => by rw [y_X0_insert__z20]) ?_
  refine Tm_ite (fun _ => low) (fun c => ?_)
  rw [u_le (by omega) (by decide)] at c
  have c1 : 1 ≤ uN (L.1 3) := Nat.lt_of_not_le c
  have e1 : uN (L.1 2 + L.1 3 - 1) = s + n - 1 := by
    rw [u_sub (by rw [e23]; show 1 ≤ _; omega), e23]; rfl
  refine Tm_chk (u_in (by omega) (by omega)) ?_
  refine Tm_oc (c_compareW h ?_ hx) (fun r q => ?_)
  · show Gw g (σ.2.2.1 20 (L.1 2 + L.1 3 - 1).toNatClampNeg)
    rw [u_cl (by omega), e1]
    exact hv _ (by omega) (by omega)
  · have e : r.2 = σ := q
    rw [e]
    refine Tm_ite (fun _ => low) (fun _ => ?_)
    refine b1 _ rfl rfl rfl rfl ?_ ?_ ?_
    · show s ≤ uN (L.1 2 + L.1 3); omega
    · show uN (L.1 2 + L.1 3) ≤ _; omega
    · show uN (L.1 2 + L.1 3) ≤ _; omega
theorem c_insert20B (h : HQ g l t σ) (hN : sN σ 20 ≤ 1000000000) {s n e : Nat} (h2 : uN (L.1 2) = s) (h3 : uN (L.1 3) = n) (h4 : uN (L.1 4) = e) (he : s + n ≤ e) (he2 : e + 1 ≤ sN σ 20) (hv : ∀ j, s ≤ j → j < s + n → Gw g (σ.2.2.1 20 j)) (hx : Gv g (L.1 5)) : Tm (fun k => y_X0_insert__z20 k 0 L σ) (fun r => InO20W g σ s n e r ∧ ((∀ j, s ≤ j → j < s + n → Gv g (σ.2.2.1 20 j)) → InO20 g σ s n e r)) := by
  by_cases z : ∀ j, s ≤ j → j < s + n → Gv g (σ.2.2.1 20 j)
  · exact Tm_mono (Tm_and (c_insert20W h hN h2 h3 h4 he he2 hv hx) (c_insert20 h hN h2 h3 h4 he he2 z hx)) (fun r q => ⟨q.1, fun _ => q.2⟩)
  · exact Tm_mono (c_insert20W h hN h2 h3 h4 he he2 hv hx) (fun r q => ⟨q, fun y => absurd y z⟩)
def Knn (K : Nat → Option Int32) (a b : Nat) : Nat → Option Int32 := fun j => if j < a then K j else if j < b then none else some mkC
theorem MIn_F (mi : MIn c g l t K K2 K3 K4 B KB σ) {f : Nat → Int32} {a b : Nat} (hf : ∀ j, j < uN (σ.1 1902) → Gw g (f j)) (ha : ∀ j, j < a → f j = σ.2.2.1 20 j) (hb : ∀ j, a ≤ j → j < b → j < uN (σ.1 1902) → Gv g (f j)) (hB : ∀ j, a ≤ j → j < B → (KB j = none ∧ j < b) ∨ (KB j = some mkC ∧ b ≤ j)) : MIn c g l t (Knn K a b) K2 K3 K4 B KB (uF σ 20 f) ∧ Md σ (uF σ 20 f) := by
  obtain ⟨st1, st2, st3⟩ := mi.2.1.1
  have md : Md σ (uF σ 20 f) := Md_F σ (by decide) f
  have v := VI_20 (σ' := uF σ 20 f) (K' := Knn K a b) mi.2.1 md rfl ⟨fun _ z => z, fun _ _ => rfl⟩ st1 st2 (by
    intro j hj
    have hj' : j < uN (σ.1 1902) := hj
    show Gw g (f j) ∧ (Knn K a b j = none → Gv g (f j)) ∧ ∀ v, Knn K a b j = some v → (f j = v ∧ Rr v) ∨ Mkd g (σ.2.2.1 3) v (f j)
    unfold Knn
    by_cases e : j < a
    · rw [if_pos e, ha j e]; exact st3 j hj'
    · rw [if_neg e]
      by_cases e2 : j < b
      · rw [if_pos e2]; exact Rwn (hb j (by omega) e2 hj')
      · rw [if_neg e2]; exact Rwc (hf j hj'))
  refine ⟨MIn_d mi md (HQ_fr mi.1 rfl rfl rfl) v (fun j hj => ?_) mi.2.2.2.2.2.2.1.2, md⟩
  unfold Knn
  by_cases e : j < a
  · rw [if_pos e]; exact mi.2.2.2.2.2.1 j hj
  · rcases hB j (by omega) hj with z | z
    · rw [if_neg e, if_pos z.2]; exact z.1.symm
    · rw [if_neg e, if_neg (by omega)]; exact z.1.symm
theorem c_gatherIntoSet (p : Pre c g l t K K2 K3 K4 B KB f0 u0 σ fs u 0 (d :: r) pb nf nc sq) (hd : d < 250000) (d2 : d % 2 = 1) (gx : Gv g (L.1 1)) (nx : Nx c (uN (σ.1 1900)) u 0 (d :: r) rk) : Tm (fun k => f_X3_gatherIntoSet k 0 L σ) (fun q => q.1.1 = 0 ∧ IO c B KB f0 u0 σ (mu σ (qv nf sq rk)) ((0, 0), q.2.1, (q.2.2.1 + 0, q.2.2.2 + 0))) := by
  have bg5 : 250000 < bsl := by decide
  have pcopy := p
  obtain ⟨mi, ty, w, h0, bo⟩ := p
  obtain ⟨st1, st2, st3⟩ := mi.2.1.1
  have u1 : uN (1 : Int32) = 1 := rfl
  have u2 : uN (2 : Int32) = 2 := rfl
  obtain ⟨b, n, z, a1, a2, a3, a4, a5, a6, a7⟩ := ty.1.2.1 (by omega) hd
  have v1 := pin_v st3 (by omega) a4 (rwN_r (by omega))
  have v2 := pin_v st3 (by omega) a5 a6.1
  have sb := SL_le _ _ _ a2
  have f01 := (FC_f0 _ _ _ _ _ _ _ ty.2.1).1
  have bB : B ≤ b ∧ (B ≤ b - 1 ∨ ∀ j, KB j = KH j) := by
    rcases bo with q | q
    · exact ⟨by omega, Or.inl (by omega)⟩
    · have y2 := FC_B _ _ _ _ _ _ _ ty.2.1
      have q3 := ty.2.2.1
      have e : bt 0 (d :: r) = bt (d / 2) r := by
        show (if bsl ≤ d then d - bsl else bt (d / 2) r) = _
        rw [if_neg (by omega)]
      rw [e] at q3
      refine ⟨?_, Or.inr q.1⟩
      rcases y2 with y3 | y3
      · rw [y3.2] at q3
        omega
      · omega
  have ea : uN (σ.1 1902 - 1) = b + n + 1 := by rw [u_sub (by omega), u1]; omega
  have ea2 : uN (σ.1 1902 - 2) = b + n := by rw [u_sub (by omega), u2]; omega
  have c1 : (σ.1 1902 - 1).toNatClampNeg = b + n + 1 := by rw [u_cl (by omega), ea]
  have c2 : (σ.1 1902 - 2).toNatClampNeg = b + n := by rw [u_cl (by omega), ea2]
  have i1 : ¬ (σ.1 1902 - 1 < 0 ∨ sN σ 20 ≤ (σ.1 1902 - 1).toNatClampNeg) := u_in (by omega) (by omega)
  have i2 : ¬ (σ.1 1902 - 2 < 0 ∨ sN σ 20 ≤ (σ.1 1902 - 2).toNatClampNeg) := u_in (by omega) (by omega)
  have eb : uN (σ.1 1902 - 2 - nI n) = b := by rw [u_sub (by rw [u_n (by omega), ea2]; omega), u_n (by omega), ea2]; omega
  have cb : (σ.1 1902 - 2 - nI n).toNatClampNeg = b := by rw [u_cl (by omega), eb]
  have b4 : 1 ≤ n → ∀ L' : LV, L'.1 101 = σ.1 1902 - 2 - nI n → Gv g (L'.1 100) → Tm (fun k => f_X3_gatherIntoSet k 4 L' σ) (fun q => q.1.1 = 0 ∧ IO c B KB f0 u0 σ (mu σ (qv nf sq rk)) ((0, 0), q.2.1, (q.2.2.1 + 0, q.2.2.2 + 0))) := by
    intro n1 L' l101 gv
    obtain ⟨p1, g1⟩ := Pre_s pcopy (a3 b (Nat.le_refl _) (by omega)) gv
    refine Tm_suc (fun k => by rw [f_X3_gatherIntoSet]) ?_
    rw [l101]
    refine Tm_chk (u_in (by omega) (by omega)) ?_
    rw [cb]
    exact Tm_some ⟨rfl, fl_go p1 g1 rfl (fun _ _ => rfl) nx⟩
  have b5 : ∀ (L' : LV) (σ' : CS) (Q : RS → Prop), Q ((0, 0), σ', (0, 0)) → Tm (fun k => f_X3_gatherIntoSet k 5 L' σ') Q := by
    intro L' σ' Q h
    refine Tm_suc (fun k => by rw [f_X3_gatherIntoSet]) ?_
    exact Tm_some h
  have b2 : ∀ L' : LV, L'.1 1 = L.1 1 → L'.1 3 = nI n → Tm (fun k => f_X3_gatherIntoSet k 2 L' σ) (fun q => q.1.1 = 0 ∧ IO c B KB f0 u0 σ (mu σ (qv nf sq rk)) ((0, 0), q.2.1, (q.2.2.1 + 0, q.2.2.2 + 0))) := by
    intro L' l1 l3
    refine Tm_suc (fun k => by rw [f_X3_gatherIntoSet]) ?_
    refine Tm_oxc (c_push st1 st2) (fun q z => by rw [z.1]) (fun q4 z4 => ?_)
    have m4 := pu_MK (mk := none) mi (Or.inl ⟨rfl, Gv_om g⟩) z4
    obtain ⟨h1, h2, h3, h4, h5, h6, h7⟩ := z4
    have s4 : (uN (q4.2.1.1 1902) = uN (σ.1 1902) + 1 ∧ q4.2.1.1 1812 = σ.1 1812 ∧ q4.2.1.1 1905 = σ.1 1905) ∨ (uN (q4.2.1.1 1902) = uN (σ.1 1902) ∧ q4.2.1.1 1812 = 1) := by
      rcases h7 with y | y
      · exact Or.inl ⟨y.1, y.2.2.2.1, y.2.2.2.2.2⟩
      · exact Or.inr ⟨by rw [y.1], y.2.2.1⟩
    have hzz : ¬ q4.2.1.1 1812 = 0 → ¬ q4.2.1.1 1813 = 0 := by
      intro zz
      rcases h7 with y | y
      · exact absurd (y.2.2.2.1.trans h0) zz
      · exact y.2.2.2.2
    have st4 := m4.1.2.1.1
    have k1 := h2.1
    have k2 := h2.2
    have fe : ∀ j, ¬ (j = 1 ∨ j = 404 ∨ j = 1203 ∨ j = 1812 ∨ j = 1813 ∨ j = 1902 ∨ j = 1905) → q4.2.1.1 j = σ.1 j := fun j hj => h3.1 j (by omega)
    have es : uN (q4.2.1.1 1902 - 1) = uN (q4.2.1.1 1902) - 1 := by rw [u_sub (by rw [u1]; omega), u1]
    have es2 : uN (q4.2.1.1 1902 - 1 - 2 - L'.1 3) = uN (q4.2.1.1 1902) - 3 - n := by
      rw [l3, u_sub (by rw [u_n (by omega), u_sub (by rw [u2, es]; omega), es, u2]; omega), u_n (by omega), u_sub (by rw [u2, es]; omega), es, u2]
      omega
    have m0 := MIn_fl (σ' := uI q4.2.1 1902 (q4.2.1.1 1902 - 1)) m4.1 rfl (fun j hj => upd_other (by omega)) (by show B ≤ uN (q4.2.1.1 1902 - 1); rw [es]; omega) (by show uN (q4.2.1.1 1902 - 1) ≤ _; rw [es]; omega)
    have st40 : uN (q4.2.1.1 1902) ≤ sN q4.2.1 20 := st4.1
    have st41 := st4.2.1
    refine Tm_op (c_insert20B (s := uN (q4.2.1.1 1902) - 3 - n) (n := n) (e := uN (q4.2.1.1 1902) - 1) m0.1.1 (by show sN q4.2.1 20 ≤ _; omega) es2 (by show uN (L'.1 3) = n; rw [l3, u_n (by omega)]) es (by omega) (by show _ ≤ sN q4.2.1 20; omega) (fun j j1 j2 => (st4.2.2 j (by omega)).1) (by show Gv g (L'.1 1); rw [l1]; exact gx)) (fun q zi => ?_)
    obtain ⟨zi, ziG⟩ := zi
    rcases zi with ⟨z1, z2⟩ | ⟨z1, fn, z2, z3, z4', z5, z6⟩
    · rw [z2]
      refine Tm_yes z1 ?_
      refine b5 _ _ _ ⟨rfl, ?_⟩
      have md := Md_t m4.2 m0.2
      have ph := Ph_s (σ := q4.2.1) (σ' := uI q4.2.1 1902 (q4.2.1.1 1902 - 1)) rfl
      refine ⟨rfl, ⟨by show q4.2.2.1 + (0 + 0) + PhC (uI q4.2.1 1902 (q4.2.1.1 1902 - 1)) ≤ _; omega, by show q4.2.2.2 + (0 + 0) + PhS (uI q4.2.1 1902 (q4.2.1.1 1902 - 1)) ≤ _; omega⟩, Md_M md, fun _ => Md_E md, g, l, t, _, K2, K3, K4, m0.1, fun zz => ?_, fun zz => Or.inl (hzz zz)⟩
      have z0 : q4.2.1.1 1812 = 0 := zz
      rcases s4 with s | s
      · refine go_n (TyS_k (σ' := uI q4.2.1 1902 (q4.2.1.1 1902 - 1)) ty ⟨fe 1901 (by decide), fe 1815 (by decide), fe 1811 (by decide), fe 1908 (by decide)⟩ ?_ (fun p hp => Kw_o (Or.inl (by omega))) ty.2.2.1 ty.2.2.2.2.2.2.2.2) w s.2.2 (fe 1814 (by decide)) (by show Nx c (uN (q4.2.1.1 1900)) u 0 (d :: r) rk; rw [fe 1900 (by decide)]; exact nx)
        show SL _ _ (uN (q4.2.1.1 1902 - 1)) 0 (d :: r)
        rw [es, s.1, show uN (σ.1 1902) + 1 - 1 = uN (σ.1 1902) by omega]
        exact SL_eq _ _ _ (fun p h1 h2 => Kw_o (Or.inl h2)) ty.1
      · rw [s.2] at z0
        exact absurd z0 (by decide)
    · rw [z2]
      refine Tm_no (by rw [z1]; decide) ?_
      have gin : (∀ j, uN (q4.2.1.1 1902) - 3 - n ≤ j → j < uN (q4.2.1.1 1902) - 3 - n + n → Gv g (q4.2.1.2.2.1 20 j)) → ∀ j, uN (q4.2.1.1 1902) - 3 - n ≤ j → j < uN (q4.2.1.1 1902) - 3 - n + n + 1 → Gv g (fn j) := by
        intro hg
        rcases ziG hg with y | ⟨_, fn', y2, _, y4, _⟩
        · exfalso
          rw [y.1] at z1
          exact absurd z1 (by decide)
        · have e : fn' = fn := by
            have z := y2.symm.trans z2
            have z' := congrArg (fun s : CS => s.2.2.1 20) z
            exact z'
          rw [← e]; exact y4
      have old : ∀ j, j < uN (σ.1 1902) → q4.2.1.2.2.1 20 j = σ.2.2.1 20 j := h6
      obtain ⟨bb, bb1, bb2, bb3⟩ : ∃ bb, (uN (q4.2.1.1 1902) = uN (σ.1 1902) + 1 → bb = uN (q4.2.1.1 1902) - 2) ∧ (∀ j, uN (q4.2.1.1 1902) - 3 - n ≤ j → j < bb → Gv g (fn j)) ∧ (∀ j, uN (q4.2.1.1 1902) - 3 - n ≤ j → j < B → (KB j = none ∧ j < bb) ∨ (KB j = some mkC ∧ bb ≤ j)) := by
        rcases s4 with s | s
        · refine ⟨uN (q4.2.1.1 1902) - 2, fun _ => rfl, fun j j1 j2 => gin (fun i i1 i2 => ?_) j j1 (by omega), fun j j1 j2 => absurd j2 (by omega)⟩
          rw [old i (by omega)]
          exact (st3 i (by omega)).2.1 (a3 i (by omega) (by omega))
        · by_cases y : B ≤ b - 1
          · exact ⟨uN (q4.2.1.1 1902) - 3 - n, fun z => absurd z (by omega), fun j j1 j2 => absurd j2 (by omega), fun j j1 j2 => absurd j2 (by omega)⟩
          · have kn0 := bB.2.resolve_left y
            by_cases y5 : b - 1 < 4
            · exact ⟨uN (q4.2.1.1 1902) - 3 - n, fun z => absurd z (by omega), fun j j1 j2 => absurd j2 (by omega), fun j j1 j2 => Or.inr ⟨(kn0 j).trans (KH_c (by omega)), j1⟩⟩
            have kn : ∀ j, 4 ≤ j → KB j = none := fun j hj => (kn0 j).trans (KH_n hj)
            refine ⟨uN (q4.2.1.1 1902) - 3 - n + 1, fun z => absurd z (by omega), fun j j1 j2 => gin (fun i i1 i2 => ?_) j j1 (by omega), fun j j1 j2 => Or.inl ⟨kn j (by omega), by omega⟩⟩
            rw [old i (by omega)]
            refine (st3 i (by omega)).2.1 ?_
            by_cases y3 : i < b
            · rw [mi.2.2.2.2.2.1 i (by omega)]; exact kn i (by omega)
            · exact a3 i (by omega) (by omega)
      have mF := MIn_F (f := fn) (a := uN (q4.2.1.1 1902) - 3 - n) (b := bb) m4.1 (fun j hj => by
        rcases Nat.lt_or_ge j (uN (q4.2.1.1 1902) - 3 - n) with y | y
        · rw [z3 j y]; exact (st4.2.2 j hj).1
        · rcases Nat.lt_or_ge j (uN (q4.2.1.1 1902) - 3 - n + n + 1) with y2 | y2
          · exact z4' j y y2
          · have q5 := z5 (j - 1) (by omega) (by omega)
            rw [show j - 1 + 1 = j by omega] at q5
            rw [q5]; exact (st4.2.2 (j - 1) (by omega)).1) z3 (fun j j1 j2 _ => bb2 j j1 j2) bb3
      have mA := MIn_wr (x := rwN (n + 1)) (mk := some (rwN (n + 1))) (j := uN (q4.2.1.1 1902) - 2) mF.1 (Or.inr ⟨rfl, rwN_r (by omega)⟩) (by omega)
      have e0 : q4.2.1.1 1902 - 1 + 1 = q4.2.1.1 1902 := by
        refine u_eq.2 ?_
        rw [u_inc (by omega), es]; omega
      have em2 : uN (q4.2.1.1 1902 - 2) = uN (q4.2.1.1 1902) - 2 := by rw [u_sub (by rw [u2]; omega), u2]
      have cm2 : (q4.2.1.1 1902 - 2).toNatClampNeg = uN (q4.2.1.1 1902) - 2 := by rw [u_cl (by omega), em2]
      have cm1 : (q4.2.1.1 1902 - 1).toNatClampNeg = uN (q4.2.1.1 1902) - 1 := by rw [u_cl (by omega), es]
      refine Tm_op c_raw (fun q5 z5' => ?_)
      rw [z5']
      have e31 : uN (L'.1 3 + 1) % 268435456 = n + 1 := by rw [l3, u_inc (by rw [u_n (by omega)]; omega), u_n (by omega)]; omega
      show Tm (fun k => f_X3_gatherIntoSet k 6 (lI (lI L' 100 (rwN (uN (L'.1 3 + 1) % 268435456))) 101 (q4.2.1.1 1902 - 1 + 1 - 2)) (uI (uF (uI q4.2.1 1902 (q4.2.1.1 1902 - 1)) 20 fn) 1902 (q4.2.1.1 1902 - 1 + 1))) _
      rw [e31, e0]
      have b8 : ∀ L2 : LV, L2.1 101 = q4.2.1.1 1902 - 1 → Tm (fun k => f_X3_gatherIntoSet k 8 L2 (uA (uI (uF (uI q4.2.1 1902 (q4.2.1.1 1902 - 1)) 20 fn) 1902 (q4.2.1.1 1902)) 20 (uN (q4.2.1.1 1902) - 2) (rwN (n + 1)))) (fun q => q.1.1 = 0 ∧ IO c B KB f0 u0 σ (mu σ (qv nf sq rk)) ((0, 0), q.2.1, (q4.2.2.1 + (q.2.2.1 + 0), q4.2.2.2 + (q.2.2.2 + 0)))) := by
        intro L2 m101
        refine Tm_suc (fun k => by rw [f_X3_gatherIntoSet]) ?_
        refine Tm_op c_raw (fun q6 z6' => ?_)
        rw [z6', m101]
        refine Tm_chk (u_in (by rw [es]; show _ < sN q4.2.1 20; omega) (by show sN q4.2.1 20 ≤ _; omega)) ?_
        rw [cm1]
        refine b5 _ _ _ ⟨rfl, ?_⟩
        generalize hv : rwN (uN ((lI lZ 0 (L2.1 100)).1 0) % 268435456) = rv
        have rvr : Rr rv := by rw [← hv]; exact rwN_r (Nat.mod_lt _ (by decide))
        have mB := MIn_wr (x := rv) (mk := some rv) (j := uN (q4.2.1.1 1902) - 1) mA.1 (Or.inr ⟨rfl, rvr⟩) (by omega)
        have mZ := MIn_fl (σ' := uA (uA (uI (uF (uI q4.2.1 1902 (q4.2.1.1 1902 - 1)) 20 fn) 1902 (q4.2.1.1 1902)) 20 (uN (q4.2.1.1 1902) - 2) (rwN (n + 1))) 20 (uN (q4.2.1.1 1902) - 1) rv) mB.1 rfl (fun j hj => by
          show upd (upd q4.2.1.1 1902 _) 1902 _ j = q4.2.1.1 j
          rw [upd_other (by omega), upd_other (by omega)]) (by show B ≤ uN (q4.2.1.1 1902); omega) (Nat.le_refl _)
        have md := Md_t m4.2 (Md_t mF.2 (Md_t mA.2 (Md_t mB.2 mZ.2)))
        have ph := Ph_s (σ := q4.2.1) (σ' := uA (uA (uI (uF (uI q4.2.1 1902 (q4.2.1.1 1902 - 1)) 20 fn) 1902 (q4.2.1.1 1902)) 20 (uN (q4.2.1.1 1902) - 2) (rwN (n + 1))) 20 (uN (q4.2.1.1 1902) - 1) rv) rfl
        refine ⟨rfl, ⟨by show q4.2.2.1 + (0 + 0) + PhC (uA (uA (uI (uF (uI q4.2.1 1902 (q4.2.1.1 1902 - 1)) 20 fn) 1902 (q4.2.1.1 1902)) 20 (uN (q4.2.1.1 1902) - 2) (rwN (n + 1))) 20 (uN (q4.2.1.1 1902) - 1) rv) ≤ _; omega, by show q4.2.2.2 + (0 + 0) + PhS (uA (uA (uI (uF (uI q4.2.1 1902 (q4.2.1.1 1902 - 1)) 20 fn) 1902 (q4.2.1.1 1902)) 20 (uN (q4.2.1.1 1902) - 2) (rwN (n + 1))) 20 (uN (q4.2.1.1 1902) - 1) rv) ≤ _; omega⟩, Md_M md, fun _ => Md_E md, g, l, t, _, K2, K3, K4, mZ.1, fun zz => ?_, fun zz => Or.inl (hzz zz)⟩
        have z0 : q4.2.1.1 1812 = 0 := zz
        rcases s4 with s | s
        · have hs : SL (Kw (Kw (Knn (Kw K (uN (σ.1 1902)) 1 none) (uN (q4.2.1.1 1902) - 3 - n) bb) (uN (q4.2.1.1 1902) - 2) 1 (some (rwN (n + 1)))) (uN (q4.2.1.1 1902) - 1) 1 (some rv)) (uN (σ.1 1901) + 4) (uN (q4.2.1.1 1902)) 0 (d :: r) := by
            have hi1 : uN (q4.2.1.1 1902) = b + n + 3 := by omega
            have hbb := bb1 s.1
            rw [hbb, hi1, show b + n + 3 - 3 - n = b by omega, show b + n + 3 - 2 = b + n + 1 by omega, show b + n + 3 - 1 = b + n + 2 by omega]
            refine ⟨fun cc => absurd cc (by omega), fun _ _ => ⟨b, n + 1, rv, by omega, SL_eq _ _ _ (fun p h1 h2 => ?_) a2, fun p h1 h2 => ?_, ?_, ?_, ⟨rvr, fun _ _ => by omega⟩, fun p h1 h2 => absurd h2 (by omega)⟩, fun _ c5 => absurd hd c5⟩
            · rw [Kw_o (Or.inl (by omega)), Kw_o (Or.inl (by omega))]
              unfold Knn
              rw [if_pos h2, Kw_o (Or.inl (by omega))]
            · rw [Kw_o (Or.inl (by omega)), Kw_o (Or.inl (by omega))]
              unfold Knn
              rw [if_neg (by omega), if_pos (by omega)]
            · rw [Kw_o (Or.inl (by omega)), Kw_i (by omega) (by omega)]
            · exact Kw_i (by omega) (by omega)
          refine go_n (TyS_k (σ' := uA (uA (uI (uF (uI q4.2.1 1902 (q4.2.1.1 1902 - 1)) 20 fn) 1902 (q4.2.1.1 1902)) 20 (uN (q4.2.1.1 1902) - 2) (rwN (n + 1))) 20 (uN (q4.2.1.1 1902) - 1) rv) ty ⟨fe 1901 (by decide), fe 1815 (by decide), fe 1811 (by decide), fe 1908 (by decide)⟩ hs (fun p hp => ?_) ty.2.2.1 ty.2.2.2.2.2.2.2.2) w s.2.2 (fe 1814 (by decide)) (by show Nx c (uN (q4.2.1.1 1900)) u 0 (d :: r) rk; rw [fe 1900 (by decide)]; exact nx)
          rw [Kw_o (Or.inl (by omega)), Kw_o (Or.inl (by omega))]
          unfold Knn
          rw [if_pos (by omega), Kw_o (Or.inl (by omega))]
        · rw [s.2] at z0
          exact absurd z0 (by decide)
      have gA : Gv g (L'.1 1) := by rw [l1]; exact gx
      have hqA : HQ g l t (uA (uI (uF (uI q4.2.1 1902 (q4.2.1.1 1902 - 1)) 20 fn) 1902 (q4.2.1.1 1902)) 20 (uN (q4.2.1.1 1902) - 2) (rwN (n + 1))) := HQ_fr mA.1.1 rfl rfl rfl
      refine Tm_suc (fun k => by rw [f_X3_gatherIntoSet]) ?_
      show Tm (fun k => if ¬ (q4.2.1.1 1902 - 2 < 0 ∨ sN q4.2.1 20 ≤ (q4.2.1.1 1902 - 2).toNatClampNeg) then Jvm.Pilot.CSetHouseLaw_law_r7351_1de140.op (y_X1_size k 0 (lI lZ 1 (L'.1 1)) (uA (uI (uF (uI q4.2.1 1902 (q4.2.1.1 1902 - 1)) 20 fn) 1902 (q4.2.1.1 1902)) 20 (q4.2.1.1 1902 - 2).toNatClampNeg (rwN (n + 1)))) (fun r2 => if L'.1 4 + r2.1 ≤ 1000 then f_X3_gatherIntoSet k 7 (lI (lI (lI L' 100 (rwN (n + 1))) 101 (q4.2.1.1 1902 - 2)) 100 (q4.2.1.1 1902 - 1)) r2.2 else f_X3_gatherIntoSet k 8 (lI (lI (lI (lI L' 100 (rwN (n + 1))) 101 (q4.2.1.1 1902 - 2)) 100 3000) 101 (q4.2.1.1 1902 - 1)) r2.2) else none) _
      refine Tm_chk (u_in (by rw [em2]; omega) (by omega)) ?_
      rw [cm2]
      refine Tm_op (c_size1 hqA gA) (fun q6 z6' => ?_)
      have e6 : q6.2 = _ := z6'.1
      rw [e6]
      refine Tm_ite (fun _ => ?_) (fun _ => b8 _ rfl)
      refine Tm_suc (fun k => by rw [f_X3_gatherIntoSet]) ?_
      refine Tm_op (c_size1 hqA gA) (fun q7 z7' => ?_)
      have e7 : q7.2 = _ := z7'.1
      rw [e7]
      exact b8 _ rfl
  have b1 : ∀ L' : LV, L'.1 1 = L.1 1 → L'.1 3 = nI n → L'.1 4 = nI (uN z % 268435456) → Tm (fun k => f_X3_gatherIntoSet k 1 L' σ) (fun q => q.1.1 = 0 ∧ IO c B KB f0 u0 σ (mu σ (qv nf sq rk)) ((0, 0), q.2.1, (q.2.2.1 + 0, q.2.2.2 + 0))) := by
    intro L' l1 l3 l4
    refine Tm_suc (fun k => by rw [f_X3_gatherIntoSet]) ?_
    refine Tm_ite (fun _ => b2 _ l1 l3) (fun c4 => ?_)
    have n1 : 1 ≤ n := by
      refine a6.2 d2 ?_
      rw [l4, u_le (by rw [u_n (by omega)]; omega) (by decide), u_n (by omega)] at c4
      have u1000 : uN (1000 : Int32) = 1000 := rfl
      rw [u1000] at c4
      omega
    rw [l3]
    refine Tm_ite (fun _ => b4 n1 _ rfl (by show Gv g (L'.1 1); rw [l1]; exact gx)) (fun _ => ?_)
    refine Tm_suc (fun k => by rw [f_X3_gatherIntoSet]) ?_
    refine Tm_chk (u_in (by show uN (σ.1 1902 - 2 - nI n) < _; omega) (by omega)) ?_
    refine b4 n1 _ rfl ?_
    show Gv g (σ.2.2.1 20 (σ.1 1902 - 2 - nI n).toNatClampNeg)
    rw [cb]
    exact (st3 b (by omega)).2.1 (a3 b (Nat.le_refl _) (by omega))
  refine Tm_suc (fun k => by rw [f_X3_gatherIntoSet]) ?_
  refine Tm_chk i2 ?_
  rw [c2]
  refine Tm_op c_unraw (fun q5 z5 => ?_)
  rw [z5]
  refine Tm_chk i1 ?_
  refine Tm_op c_unraw (fun q6 z6 => ?_)
  rw [z6]
  have en : nI (uN ((lI lZ 0 (σ.2.2.1 20 (b + n))).1 0) % 268435456) = nI n := by
    show nI (uN (σ.2.2.1 20 (b + n)) % 268435456) = nI n
    rw [v1, unr (by omega)]
  rw [en]
  have ez : nI (uN (σ.2.2.1 20 (σ.1 1902 - 1).toNatClampNeg) % 268435456) = nI (uN z % 268435456) := by rw [c1, v2]
  refine Tm_ite (fun _ => Tm_ite (fun _ => ?_) (fun _ => b1 _ rfl rfl ez)) (fun _ => b1 _ rfl rfl ez)
  refine Tm_op c_fail (fun q e => ?_)
  rw [e]
  refine Tm_some ⟨rfl, ha_fin pcopy rfl (fun j hj => ?_) rfl (f13 (by decide))⟩
  show upd (upd σ.1 1813 _) 1812 1 j = _
  rw [upd_other (by omega), upd_other (by omega)]
end CTR
