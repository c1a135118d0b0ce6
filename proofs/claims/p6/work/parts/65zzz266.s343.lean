/-! The class: the order of values. -/
theorem h1_0 (k d : Nat) (L : LV) (σ : CS) : y_H1 (k + 1) d 0 0 L σ = (if ((L.1 1)) = ((L.1 2)) then (some (0, σ)) else (y_H1 k d 0 1 L σ)) := rfl
theorem h1_1 (k d : Nat) (L : LV) (σ : CS) : y_H1 (k + 1) d 0 1 L σ = (if 0 ≤ ((L.1 1)) then (y_H1 k d 0 2 L σ) else (y_H1 k d 0 3 (lI L 100 (((((((L.1 1)).toUInt32 >>> ((28 : Int32).toUInt32 &&& Int32.toUInt32 31)).toInt32)) &&& 7))) σ)) := rfl
theorem h1_2 (k d : Nat) (L : LV) (σ : CS) : y_H1 (k + 1) d 0 2 L σ = (if ¬ (((L.1 1)) < 0 ∨ (sN σ 3) ≤ ((L.1 1)).toNatClampNeg) then (y_H1 k d 0 3 (lI L 100 ((((σ.2.2.1 3 ((L.1 1)).toNatClampNeg)) &&& 7))) σ) else none) := rfl
theorem h1_3 (k d : Nat) (L : LV) (σ : CS) : y_H1 (k + 1) d 0 3 L σ = (if 0 ≤ ((L.1 2)) then (y_H1 k d 0 4 (lI L 3 ((L.1 100))) σ) else (y_H1 k d 0 5 (lI (lI L 3 ((L.1 100))) 100 (((((((L.1 2)).toUInt32 >>> ((28 : Int32).toUInt32 &&& Int32.toUInt32 31)).toInt32)) &&& 7))) σ)) := rfl
theorem h1_4 (k d : Nat) (L : LV) (σ : CS) : y_H1 (k + 1) d 0 4 L σ = (if ¬ (((L.1 2)) < 0 ∨ (sN σ 3) ≤ ((L.1 2)).toNatClampNeg) then (y_H1 k d 0 5 (lI L 100 ((((σ.2.2.1 3 ((L.1 2)).toNatClampNeg)) &&& 7))) σ) else none) := rfl
theorem h1_5 (k d : Nat) (L : LV) (σ : CS) : y_H1 (k + 1) d 0 5 L σ = (if ((L.1 3)) = ((L.1 100)) then (y_H1 k d 0 6 L σ) else (if ((L.1 100)) ≤ ((L.1 3)) then (y_H1 k d 0 7 L σ) else (y_H1 k d 0 8 (lI L 100 ((-1))) σ))) := rfl
theorem h1_6 (k d : Nat) (L : LV) (σ : CS) : y_H1 (k + 1) d 0 6 L σ = (if 0 ≤ ((L.1 1)) then (y_H1 k d 0 9 L σ) else (if 0 ≤ ((L.1 2)) then (y_H1 k d 0 9 L σ) else (if ((((L.1 2)) <<< ((4 : Int32) &&& 31))) ≤ ((((L.1 1)) <<< ((4 : Int32) &&& 31))) then (y_H1 k d 0 10 L σ) else (y_H1 k d 0 11 (lI L 100 ((-1))) σ)))) := rfl
theorem h1_7 (k d : Nat) (L : LV) (σ : CS) : y_H1 (k + 1) d 0 7 L σ = (y_H1 k d 0 8 (lI L 100 1) σ) := rfl
theorem h1_8 (k d : Nat) (L : LV) (σ : CS) : y_H1 (k + 1) d 0 8 L σ = (some ((L.1 100), σ)) := rfl
theorem h1_9 (k d : Nat) (L : LV) (σ : CS) : y_H1 (k + 1) d 0 9 L σ = (if 5 ≤ ((L.1 3)) then (y_H1 k d 0 12 L σ) else (if ((L.1 3)) = 2 then (oc (y_X1_compareWholes k 0 (lI (lI lZ 1 ((L.1 1))) 2 ((L.1 2))) σ) (fun r3 => y_H1 k d 0 14 (lI L 100 r3.1) r3.2)) else (y_H1 k d 0 13 L σ))) := rfl
theorem h1_10 (k d : Nat) (L : LV) (σ : CS) : y_H1 (k + 1) d 0 10 L σ = (y_H1 k d 0 11 (lI L 100 1) σ) := rfl
theorem h1_11 (k d : Nat) (L : LV) (σ : CS) : y_H1 (k + 1) d 0 11 L σ = (some ((L.1 100), σ)) := rfl
theorem h1_12 (k d : Nat) (L : LV) (σ : CS) : y_H1 (k + 1) d 0 12 L σ = (if ¬ (((L.1 1)) < 0 ∨ (sN σ 3) ≤ ((L.1 1)).toNatClampNeg) then (if ¬ (((L.1 2)) < 0 ∨ (sN σ 3) ≤ ((L.1 2)).toNatClampNeg) then (y_H1 k d 0 15 (lI (lI (lI L 5 (((((((σ.2.2.1 3 ((L.1 1)).toNatClampNeg)).toUInt32 >>> ((4 : Int32).toUInt32 &&& Int32.toUInt32 31)).toInt32)) &&& 4095))) 6 (((((((σ.2.2.1 3 ((L.1 2)).toNatClampNeg)).toUInt32 >>> ((4 : Int32).toUInt32 &&& Int32.toUInt32 31)).toInt32)) &&& 4095))) 7 1) σ) else none) else none) := rfl
theorem h1_13 (k d : Nat) (L : LV) (σ : CS) : y_H1 (k + 1) d 0 13 L σ = (oc (y_X1_compareStrings k 0 (lI (lI lZ 1 ((L.1 1))) 2 ((L.1 2))) σ) (fun r1 => y_H1 k d 0 14 (lI L 100 r1.1) r1.2)) := rfl
theorem h1_14 (k d : Nat) (L : LV) (σ : CS) : y_H1 (k + 1) d 0 14 L σ = (some ((L.1 100), σ)) := rfl
theorem h1_15 (k d : Nat) (L : LV) (σ : CS) : y_H1 (k + 1) d 0 15 L σ = (if ((L.1 5)) < ((L.1 7)) then (y_H1 k d 0 16 L σ) else (if ((L.1 6)) < ((L.1 7)) then (y_H1 k d 0 16 L σ) else (if ¬ (((((L.1 1)) + ((L.1 7)))) < 0 ∨ (sN σ 3) ≤ ((((L.1 1)) + ((L.1 7)))).toNatClampNeg) then (if ¬ (((((L.1 2)) + ((L.1 7)))) < 0 ∨ (sN σ 3) ≤ ((((L.1 2)) + ((L.1 7)))).toNatClampNeg) then (if ((σ.2.2.1 3 ((((L.1 1)) + ((L.1 7)))).toNatClampNeg)) = ((σ.2.2.1 3 ((((L.1 2)) + ((L.1 7)))).toNatClampNeg)) then (y_H1 k d 0 18 (lI L 100 0) σ) else (y_H1 k d 0 17 L σ)) else none) else none))) := rfl
theorem h1_16 (k d : Nat) (L : LV) (σ : CS) : y_H1 (k + 1) d 0 16 L σ = (if ((L.1 5)) = ((L.1 6)) then (y_H1 k d 0 20 (lI L 100 0) σ) else (y_H1 k d 0 19 L σ)) := rfl
theorem h1_17 (k d : Nat) (L : LV) (σ : CS) : y_H1 (k + 1) d 0 17 L σ = (if ¬ (((((L.1 1)) + ((L.1 7)))) < 0 ∨ (sN σ 3) ≤ ((((L.1 1)) + ((L.1 7)))).toNatClampNeg) then (if ¬ (((((L.1 2)) + ((L.1 7)))) < 0 ∨ (sN σ 3) ≤ ((((L.1 2)) + ((L.1 7)))).toNatClampNeg) then (oe d (fun e3 => oc (y_H1 k e3 0 0 (lI (lI lZ 1 ((σ.2.2.1 3 ((((L.1 1)) + ((L.1 7)))).toNatClampNeg))) 2 ((σ.2.2.1 3 ((((L.1 2)) + ((L.1 7)))).toNatClampNeg))) σ) (fun r3 => y_H1 k d 0 18 (lI L 100 r3.1) r3.2))) else none) else none) := rfl
theorem h1_18 (k d : Nat) (L : LV) (σ : CS) : y_H1 (k + 1) d 0 18 L σ = (if ((L.1 100)) = 0 then (y_H1 k d 0 21 L σ) else (some ((L.1 100), σ))) := rfl
theorem h1_19 (k d : Nat) (L : LV) (σ : CS) : y_H1 (k + 1) d 0 19 L σ = (if ((L.1 6)) ≤ ((L.1 5)) then (y_H1 k d 0 22 L σ) else (y_H1 k d 0 20 (lI L 100 ((-1))) σ)) := rfl
theorem h1_20 (k d : Nat) (L : LV) (σ : CS) : y_H1 (k + 1) d 0 20 L σ = (some ((L.1 100), σ)) := rfl
theorem h1_21 (k d : Nat) (L : LV) (σ : CS) : y_H1 (k + 1) d 0 21 L σ = (y_H1 k d 0 15 (lI L 7 ((((L.1 7)) + 1))) σ) := rfl
theorem h1_22 (k d : Nat) (L : LV) (σ : CS) : y_H1 (k + 1) d 0 22 L σ = (y_H1 k d 0 20 (lI L 100 1) σ) := rfl
section CRG
variable {g : Nat → Prop} {l : List Nat} {t : Nat} {σ : CS} {L : LV} {x y i : Int32}
/-- compare of values no higher than d -/
def PCm (g : Nat → Prop) (σ : CS) (d : Nat) : Prop := ∀ L : LV, Gv g (L.1 1) → Gv g (L.1 2) → hgt (σ.2.2.1 3) (L.1 1) ≤ d → Tm (fun k => y_H1 k d 0 0 L σ) (Qs σ)
theorem cm_end (d : Nat) (L : LV) : Tm (fun k => y_H1 k d 0 16 L σ) (Qs σ) := by
  have e : ∀ L : LV, Tm (fun k => y_H1 k d 0 20 L σ) (Qs σ) := by
    intro L
    refine Tm_suc (fun k => h1_20 k _ _ _) ?_
    exact Tm_some rfl
  refine Tm_suc (fun k => h1_16 k _ _ _) ?_
  refine Tm_ite (fun _ => e _) (fun _ => ?_)
  refine Tm_suc (fun k => h1_19 k _ _ _) ?_
  refine Tm_ite (fun _ => ?_) (fun _ => e _)
  refine Tm_suc (fun k => h1_22 k _ _ _) ?_
  exact e _
theorem cm_loop (h : HQ g l t σ) (hx : Gv g x) (hy : Gv g y) (cx : uN x < 2147483648) (cy : uN y < 2147483648) (kx : 5 ≤ hdK (uN (σ.2.2.1 3 (uN x)))) (ky : 5 ≤ hdK (uN (σ.2.2.1 3 (uN y)))) {d : Nat} (hd : hgt (σ.2.2.1 3) x ≤ d + 1) (ih : PCm g σ d) : ∀ (n : Nat) (L : LV), L.1 1 = x → L.1 2 = y → L.1 5 = nI (hdL (uN (σ.2.2.1 3 (uN x)))) → L.1 6 = nI (hdL (uN (σ.2.2.1 3 (uN y)))) → uN (L.1 7) + n = 4097 → 1 ≤ uN (L.1 7) → Tm (fun k => y_H1 k (d + 1) 0 15 L σ) (Qs σ) := by
  have lx : hdL (uN (σ.2.2.1 3 (uN x))) < 4096 := Nat.mod_lt _ (by decide)
  have ly : hdL (uN (σ.2.2.1 3 (uN y))) < 4096 := Nat.mod_lt _ (by decide)
  have wx : hdW (uN (σ.2.2.1 3 (uN x))) = hdL (uN (σ.2.2.1 3 (uN x))) := by
    unfold hdK at kx; unfold hdW; rw [if_neg (by omega)]
  have wy : hdW (uN (σ.2.2.1 3 (uN y))) = hdL (uN (σ.2.2.1 3 (uN y))) := by
    unfold hdK at ky; unfold hdW; rw [if_neg (by omega)]
  have ex : uN (nI (hdL (uN (σ.2.2.1 3 (uN x))))) = hdL (uN (σ.2.2.1 3 (uN x))) := u_n (by omega)
  have ey : uN (nI (hdL (uN (σ.2.2.1 3 (uN y))))) = hdL (uN (σ.2.2.1 3 (uN y))) := u_n (by omega)
  have fx := (HQ_c h (Gv_c hx cx).2).2.2.2.2.2.2.2.2.2.1 kx
  have fy := (HQ_c h (Gv_c hy cy).2).2.2.2.2.2.2.2.2.2.1 ky
  intro n
  induction n with
  | zero =>
    intro L d1 d2 d5 d6 d7 e7
    refine Tm_suc (fun k => h1_15 k _ _ _) ?_
    refine Tm_yes ?_ (cm_end _ _)
    rw [d5, u_ltn (by omega) (by omega), ex]
    omega
  | succ m jh =>
    intro L d1 d2 d5 d6 d7 e7
    have st : ∀ L' : LV, L'.1 1 = x → L'.1 2 = y → L'.1 5 = L.1 5 → L'.1 6 = L.1 6 → L'.1 7 = L.1 7 → Tm (fun k => y_H1 k (d + 1) 0 18 L' σ) (Qs σ) := by
      intro L' a1 a2 a5 a6 a7
      refine Tm_suc (fun k => h1_18 k _ _ _) ?_
      refine Tm_ite (fun _ => ?_) (fun _ => Tm_some rfl)
      refine Tm_suc (fun k => h1_21 k _ _ _) ?_
      refine jh _ ?_ ?_ ?_ ?_ ?_ ?_
      · exact a1
      · exact a2
      · exact a5.trans d5
      · exact a6.trans d6
      · show uN (L'.1 7 + 1) + m = _
        rw [a7, u_inc (by omega)]; omega
      · show 1 ≤ uN (L'.1 7 + 1)
        rw [a7, u_inc (by omega)]; omega
    refine Tm_suc (fun k => h1_15 k _ _ _) ?_
    refine Tm_ite (fun _ => cm_end _ _) (fun c5 => ?_)
    rw [d5, u_ltn (by omega) (by omega), ex] at c5
    refine Tm_ite (fun _ => cm_end _ _) (fun c6 => ?_)
    rw [d6, u_ltn (by omega) (by omega), ey] at c6
    have zx := in_gi (y := L.1 7) h hx cx (by omega)
    have zy := in_gi (y := L.1 7) h hy cy (by omega)
    refine Tm_chk (by rw [d1]; exact zx.1) ?_
    refine Tm_chk (by rw [d2]; exact zy.1) ?_
    refine Tm_ite (fun _ => ?_) (fun _ => ?_)
    · refine st _ ?_ ?_ ?_ ?_ ?_
      · exact d1
      · exact d2
      · rfl
      · rfl
      · rfl
    refine Tm_suc (fun k => h1_17 k _ _ _) ?_
    refine Tm_chk (by rw [d1]; exact zx.1) ?_
    refine Tm_chk (by rw [d2]; exact zy.1) ?_
    refine Tm_oe ?_
    have mx := fx.2.2 (uN (L.1 7) - 1) (by omega)
    have my := fy.2.2 (uN (L.1 7) - 1) (by omega)
    rw [show uN x + 1 + (uN (L.1 7) - 1) = uN x + uN (L.1 7) from by omega, ← zx.2, ← d1] at mx
    rw [show uN y + 1 + (uN (L.1 7) - 1) = uN y + uN (L.1 7) from by omega, ← zy.2, ← d2] at my
    refine Tm_oc (ih _ ?_ ?_ ?_) (fun r hr => ?_)
    · exact mx.1
    · exact my.1
    · have q := mx.2
      unfold hgt at hd
      rw [if_pos cx] at hd
      rw [d1] at q
      show hgt _ (σ.2.2.1 3 (L.1 1 + L.1 7).toNatClampNeg) ≤ d
      rw [d1]
      omega
    · have e : r.2 = σ := hr
      rw [e]
      refine st _ ?_ ?_ ?_ ?_ ?_
      · exact d1
      · exact d2
      · rfl
      · rfl
      · rfl
theorem hgt_k (h : HQ g l t σ) (hx : Gv g x) (cx : uN x < 2147483648) (kx : 5 ≤ hdK (uN (σ.2.2.1 3 (uN x)))) : 1 ≤ hgt (σ.2.2.1 3) x := by
  have f := ((HQ_c h (Gv_c hx cx).2).2.2.2.2.2.2.2.2.2.1 kx).2.1
  unfold hgt
  rw [if_pos cx]
  exact f
theorem cm_b (h : HQ g l t σ) (d : Nat) (ih : ∀ e, d = e + 1 → PCm g σ e) : PCm g σ d := by
  intro L hx hy hd
  have lx := kdC_lt (σ.2.2.1 3) (L.1 1)
  have ly := kdC_lt (σ.2.2.1 3) (L.1 2)
  have b5 : ∀ L' : LV, L'.1 1 = L.1 1 → L'.1 2 = L.1 2 → L'.1 3 = nI (kdC (σ.2.2.1 3) (L.1 1)) → L'.1 100 = nI (kdC (σ.2.2.1 3) (L.1 2)) → Tm (fun k => y_H1 k d 0 5 L' σ) (Qs σ) := by
    intro L' a1 a2 a3 a4
    refine Tm_suc (fun k => h1_5 k _ _ _) ?_
    refine Tm_ite (fun c => ?_) (fun _ => Tm_ite (fun _ => ?_) (fun _ => ?_))
    · rw [a3, a4, u_eq, u_n (by omega), u_n (by omega)] at c
      have b9 : ¬ (2147483648 ≤ uN (L.1 1) ∧ 2147483648 ≤ uN (L.1 2)) → Tm (fun k => y_H1 k d 0 9 L' σ) (Qs σ) := by
        intro ni
        refine Tm_suc (fun k => h1_9 k _ _ _) ?_
        have e3 : uN (L'.1 3) = kdC (σ.2.2.1 3) (L.1 1) := by rw [a3, u_n (by omega)]
        refine Tm_ite (fun c5 => ?_) (fun c5 => Tm_ite (fun c2 => ?_) (fun c2 => ?_))
        · rw [u_le (by decide) (by omega), e3] at c5
          have c5' : 5 ≤ kdC (σ.2.2.1 3) (L.1 1) := c5
          have k7 : ¬ kdC (σ.2.2.1 3) (L.1 1) = 7 := fun e => ni ⟨kdC_7 h hx e, kdC_7 h hy (by rw [← c]; exact e)⟩
          have cx : uN (L.1 1) < 2147483648 := kdC_5 hx c5' k7
          have cy : uN (L.1 2) < 2147483648 := kdC_5 hy (M := σ.2.2.1 3) (by rw [← c]; exact c5') (by rw [← c]; exact k7)
          have kx : 5 ≤ hdK (uN (σ.2.2.1 3 (uN (L.1 1)))) := by
            have q := c5'
            unfold kdC at q
            rw [if_pos cx] at q
            exact q
          have ky : 5 ≤ hdK (uN (σ.2.2.1 3 (uN (L.1 2)))) := by
            have q := c5'
            rw [c] at q
            unfold kdC at q
            rw [if_pos cy] at q
            exact q
          refine Tm_suc (fun k => h1_12 k _ _ _) ?_
          refine Tm_chk (by rw [a1]; exact in_g h hx cx) ?_
          refine Tm_chk (by rw [a2]; exact in_g h hy cy) ?_
          rw [e_len, e_len, a1, a2, u_cl cx, u_cl cy]
          obtain ⟨e, he⟩ : ∃ e, d = e + 1 := ⟨d - 1, by have := hgt_k h hx cx kx; omega⟩
          have ie := ih e he
          rw [he] at hd ⊢
          refine cm_loop h hx hy cx cy kx ky hd ie 4096 _ ?_ ?_ ?_ ?_ ?_ ?_
          · exact a1
          · exact a2
          · rfl
          · rfl
          · rfl
          · exact Nat.le_refl 1
        · have c2' : L'.1 3 = 2 := c2
          rw [u_eq, e3] at c2'
          have k2 : kdC (σ.2.2.1 3) (L.1 1) = 2 := c2'
          have b14 : ∀ L2 : LV, Tm (fun k => y_H1 k d 0 14 L2 σ) (Qs σ) := by
            intro L2
            refine Tm_suc (fun k => h1_14 k _ _ _) ?_
            exact Tm_some rfl
          refine Tm_oc (c_compareWholes h ?_ ?_ ?_ ?_) (fun r hr => ?_)
          · show Gv g (L'.1 1); rw [a1]; exact hx
          · show Gv g (L'.1 2); rw [a2]; exact hy
          · intro z
            have z' : uN (L'.1 1) < 2147483648 := z
            show hdK (uN (σ.2.2.1 3 (uN (L'.1 1)))) = 2
            rw [a1] at z' ⊢
            unfold kdC at k2
            rw [if_pos z'] at k2
            exact k2
          · intro z
            have z' : uN (L'.1 2) < 2147483648 := z
            show hdK (uN (σ.2.2.1 3 (uN (L'.1 2)))) = 2
            rw [a2] at z' ⊢
            rw [c] at k2
            unfold kdC at k2
            rw [if_pos z'] at k2
            exact k2
          · have e : r.2 = σ := hr
            rw [e]
            exact b14 _
        · have c2' : ¬ L'.1 3 = 2 := c2
          rw [u_eq, e3] at c2'
          have k2 : ¬ kdC (σ.2.2.1 3) (L.1 1) = 2 := c2'
          rw [u_le (by decide) (by omega), e3] at c5
          have k5 : ¬ 5 ≤ kdC (σ.2.2.1 3) (L.1 1) := c5
          have ks : ∀ z : Int32, Gv g z → kdC (σ.2.2.1 3) z = kdC (σ.2.2.1 3) (L.1 1) → uN z < 2147483648 → hdK (uN (σ.2.2.1 3 (uN z))) = 4 := by
            intro z hz e q
            rw [← e] at k2 k5
            have f := (HQ_c h (Gv_c hz q).2).2.2.2.2.2.2.1
            unfold kdC at k2 k5
            rw [if_pos q] at k2 k5
            omega
          have b14 : ∀ L2 : LV, Tm (fun k => y_H1 k d 0 14 L2 σ) (Qs σ) := by
            intro L2
            refine Tm_suc (fun k => h1_14 k _ _ _) ?_
            exact Tm_some rfl
          refine Tm_suc (fun k => h1_13 k _ _ _) ?_
          refine Tm_oc (c_compareStrings h ?_ ?_ ?_ ?_) (fun r hr => ?_)
          · show Gv g (L'.1 1); rw [a1]; exact hx
          · show Gv g (L'.1 2); rw [a2]; exact hy
          · intro z
            have z' : uN (L'.1 1) < 2147483648 := z
            show hdK (uN (σ.2.2.1 3 (uN (L'.1 1)))) = 4
            rw [a1] at z' ⊢
            exact ks _ hx rfl z'
          · intro z
            have z' : uN (L'.1 2) < 2147483648 := z
            show hdK (uN (σ.2.2.1 3 (uN (L'.1 2)))) = 4
            rw [a2] at z' ⊢
            exact ks _ hy c.symm z'
          · have e : r.2 = σ := hr
            rw [e]
            exact b14 _
      refine Tm_suc (fun k => h1_6 k _ _ _) ?_
      refine Tm_ite (fun c1 => ?_) (fun c1 => Tm_ite (fun c2 => ?_) (fun c2 => Tm_ite (fun _ => ?_) (fun _ => ?_)))
      · rw [u_nn, a1] at c1
        exact b9 (by omega)
      · rw [u_nn, a2] at c2
        exact b9 (by omega)
      · refine Tm_suc (fun k => h1_10 k _ _ _) ?_
        refine Tm_suc (fun k => h1_11 k _ _ _) ?_
        exact Tm_some rfl
      · refine Tm_suc (fun k => h1_11 k _ _ _) ?_
        exact Tm_some rfl
    · refine Tm_suc (fun k => h1_7 k _ _ _) ?_
      refine Tm_suc (fun k => h1_8 k _ _ _) ?_
      exact Tm_some rfl
    · refine Tm_suc (fun k => h1_8 k _ _ _) ?_
      exact Tm_some rfl
  have b3 : ∀ L' : LV, L'.1 1 = L.1 1 → L'.1 2 = L.1 2 → L'.1 100 = nI (kdC (σ.2.2.1 3) (L.1 1)) → Tm (fun k => y_H1 k d 0 3 L' σ) (Qs σ) := by
    intro L' a1 a2 a3
    refine Tm_suc (fun k => h1_3 k _ _ _) ?_
    refine Tm_ite (fun c => ?_) (fun c => ?_)
    · rw [u_nn, a2] at c
      refine Tm_suc (fun k => h1_4 k _ _ _) ?_
      refine Tm_chk (by show ¬ (L'.1 2 < 0 ∨ sN σ 3 ≤ (L'.1 2).toNatClampNeg); rw [a2]; exact in_g h hy c) ?_
      refine b5 _ ?_ ?_ ?_ ?_
      · exact a1
      · exact a2
      · exact a3
      · show σ.2.2.1 3 (L'.1 2).toNatClampNeg &&& 7 = _
        rw [e_knd, a2, u_cl c]
        unfold kdC
        rw [if_pos c]
    · rw [u_nn, a2] at c
      refine b5 _ ?_ ?_ ?_ ?_
      · exact a1
      · exact a2
      · exact a3
      · show (((L'.1 2).toUInt32 >>> ((28 : Int32).toUInt32 &&& Int32.toUInt32 31)).toInt32) &&& 7 = _
        rw [e_imm, a2]
        unfold kdC
        rw [if_neg c]
  refine Tm_suc (fun k => h1_0 k _ _ _) ?_
  refine Tm_ite (fun _ => Tm_some rfl) (fun _ => ?_)
  refine Tm_suc (fun k => h1_1 k _ _ _) ?_
  refine Tm_ite (fun c => ?_) (fun c => ?_)
  · rw [u_nn] at c
    refine Tm_suc (fun k => h1_2 k _ _ _) ?_
    refine Tm_chk (in_g h hx c) ?_
    refine b3 _ rfl rfl ?_
    show σ.2.2.1 3 (L.1 1).toNatClampNeg &&& 7 = _
    rw [e_knd, u_cl c]
    unfold kdC
    rw [if_pos c]
  · rw [u_nn] at c
    refine b3 _ rfl rfl ?_
    show (((L.1 1).toUInt32 >>> ((28 : Int32).toUInt32 &&& Int32.toUInt32 31)).toInt32) &&& 7 = _
    rw [e_imm]
    unfold kdC
    rw [if_neg c]
theorem cm_all (h : HQ g l t σ) : ∀ d, PCm g σ d := by
  intro d
  induction d with
  | zero => exact cm_b h 0 (fun e he => absurd he (by omega))
  | succ d ih =>
    refine cm_b h (d + 1) (fun e he => ?_)
    have q : e = d := by omega
    rw [q]; exact ih
theorem c_compare (h : HQ g l t σ) (hx : Gv g (L.1 1)) (hy : Gv g (L.1 2)) : Tm (fun k => y_X1_compare k 0 L σ) (Qs σ) := by
  refine cm_all h 60 L hx hy ?_
  unfold hgt
  split
  · rename_i c
    have f := (HQ_c h (Gv_c hx c).2).2.2.2.2.2.2.2.1.1
    omega
  · exact Nat.zero_le _
theorem c_same (h : HQ g l t σ) (hx : Gv g (L.1 1)) (hy : Gv g (L.1 2)) : Tm (fun k => y_X1_same k 0 L σ) (fun r => r.2 = σ ∧ (r.1 = 0 ∨ r.1 = 1)) := by
  have b1 : Tm (fun k => y_X1_same k 1 L σ) (fun r => r.2 = σ ∧ (r.1 = 0 ∨ r.1 = 1)) := by
    refine Tm_suc (fun k => by rw [y_X1_same]) ?_
    refine Tm_suc (fun k => by rw [y_X1_same]) ?_
    refine Tm_chk (Or.inr rfl) ?_
    exact Tm_some ⟨rfl, Or.inr rfl⟩
  have b2 : Tm (fun k => y_X1_same k 2 L σ) (fun r => r.2 = σ ∧ (r.1 = 0 ∨ r.1 = 1)) := by
    refine Tm_suc (fun k => by rw [y_X1_same]) ?_
    refine Tm_suc (fun k => by rw [y_X1_same]) ?_
    refine Tm_chk (Or.inl rfl) ?_
    exact Tm_some ⟨rfl, Or.inl rfl⟩
  refine Tm_suc (fun k => by rw [y_X1_same]) ?_
  refine Tm_ite (fun _ => b1) (fun _ => Tm_ite (fun _ => b2) (fun c1 => Tm_ite (fun _ => b2) (fun c2 => ?_)))
  rw [u_neg] at c1 c2
  refine Tm_chk (in_g h hx (by omega)) ?_
  refine Tm_chk (in_g h hy (by omega)) ?_
  refine Tm_ite (fun _ => ?_) (fun _ => b2)
  refine Tm_oc (c_compare h hx hy) (fun r hr => ?_)
  have e : r.2 = σ := hr
  rw [e]
  exact Tm_ite (fun _ => b1) (fun _ => b2)
end CRG
