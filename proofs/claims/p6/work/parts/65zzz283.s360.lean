/-! The class: parts of values. -/
section CRX
variable {g g' g2 : Nat → Prop} {l l' l2 : List Nat} {t t' t2 : Nat} {σ σ' σ2 : CS} {L : LV} {x y i : Int32} {M M' : Nat → Int32}
theorem c_load0x (h : HQ g l t σ) (hx : Sq5 g σ (L.1 1)) (ha : uN (L.1 2) < 2147483648) (hb : uN (L.1 3) ≤ lnC (σ.2.2.1 3) (L.1 1)) (hc : uN (L.1 4) ≤ 2048) (hr : ∀ j, j < uN (L.1 4) → Gv g (σ.2.2.1 16 j)) : Tm (fun k => y_X0_load k 0 L σ) (fun r => ∃ f, r.2 = uF σ 16 f ∧ uN r.1 ≤ 2048 ∧ (∀ j, j < uN r.1 → Gv g (f j)) ∧ (uN (L.1 1) < 2147483648 → uN (L.1 2) ≤ uN (L.1 3) → uN (L.1 3) - uN (L.1 2) ≤ 2048 - uN (L.1 4) → uN r.1 = uN (L.1 4) + (uN (L.1 3) - uN (L.1 2)))) := by
  have ll := lnC_lt (σ.2.2.1 3) (L.1 1)
  have b1 : ∀ L' : LV, L'.1 4 = L.1 4 → (uN (L.1 1) < 2147483648 → uN (L.1 2) ≤ uN (L.1 3) → uN (L.1 3) - uN (L.1 2) ≤ 2048 - uN (L.1 4) → uN (L.1 3) - uN (L.1 2) = 0) → Tm (fun k => y_X0_load k 1 L' σ) (fun r => ∃ f, r.2 = uF σ 16 f ∧ uN r.1 ≤ 2048 ∧ (∀ j, j < uN r.1 → Gv g (f j)) ∧ (uN (L.1 1) < 2147483648 → uN (L.1 2) ≤ uN (L.1 3) → uN (L.1 3) - uN (L.1 2) ≤ 2048 - uN (L.1 4) → uN r.1 = uN (L.1 4) + (uN (L.1 3) - uN (L.1 2)))) := by
    intro L' a4 hz
    refine Tm_suc (fun k => by rw [y_X0_load]) ?_
    refine Tm_some ⟨σ.2.2.1 16, (uF_id σ 16).symm, ?_, ?_, ?_⟩
    · show uN (L'.1 4) ≤ _; rw [a4]; exact hc
    · show ∀ j, j < uN (L'.1 4) → _; rw [a4]; exact hr
    · intro z1 z2 z3
      show uN (L'.1 4) = _
      rw [a4, hz z1 z2 z3]; rfl
  have eA : uN (Int32.ofNat 2048 - L.1 4) = 2048 - uN (L.1 4) := by
    rw [u_sub (by show _ ≤ 2048; exact hc)]; rfl
  refine Tm_suc (fun k => by rw [y_X0_load]) ?_
  generalize hN : (if Int32.ofNat 2048 - L.1 4 < L.1 3 - L.1 2 then Int32.ofNat 2048 - L.1 4 else L.1 3 - L.1 2) = N
  refine Tm_ite (fun cN => b1 _ rfl (fun z1 z2 z3 => ?_)) (fun cN => Tm_ite (fun cx => ?_) (fun cx => b1 _ rfl (fun z1 _ _ => absurd z1 (by rw [u_nn] at cx; exact cx))))
  · have e : uN (L.1 3 - L.1 2) = uN (L.1 3) - uN (L.1 2) := u_sub z2
    rw [i_le, u_int N] at cN
    have c' : (if uN N < 2147483648 then (uN N : Int) else (uN N : Int) - 4294967296) ≤ 0 := cN
    split at hN
    · rename_i c
      rw [u_ltn (by omega) (by omega), eA, e] at c
      omega
    · rw [← hN, e, if_pos (by omega)] at c'
      omega
  rw [u_nn] at cx
  have n1 : 1 ≤ uN N ∧ uN N < 2147483648 := by
    rw [i_le, u_int N] at cN
    have c' : ¬ (if uN N < 2147483648 then (uN N : Int) else (uN N : Int) - 4294967296) ≤ 0 := cN
    have := u_lt N
    split at c' <;> omega
  have n2 : uN (L.1 2) ≤ uN (L.1 3) ∧ uN N ≤ uN (L.1 3) - uN (L.1 2) ∧ uN N ≤ 2048 - uN (L.1 4) := by
    rcases Nat.lt_or_ge (uN (L.1 3)) (uN (L.1 2)) with z | z
    · have q := u_subn z ha
      exfalso
      split at hN
      · rename_i c
        rw [i_lt, u_int, u_int, if_pos (by omega), if_neg (by omega)] at c
        have := u_lt (L.1 3 - L.1 2)
        omega
      · rw [hN] at q; omega
    · have e : uN (L.1 3 - L.1 2) = uN (L.1 3) - uN (L.1 2) := u_sub z
      split at hN
      · rename_i c
        rw [u_ltn (by omega) (by omega), eA, e] at c
        rw [← hN, eA]
        omega
      · rename_i c
        rw [u_ltn (by omega) (by omega), eA, e] at c
        rw [← hN, e]
        omega
  have cg := Gv_c hx.1 cx
  have hq := HQ_c h cg.2
  have k5 := hx.2 cx
  unfold kdC at k5
  rw [if_pos cx] at k5
  have w5 := hdW_5 k5
  have el : lnC (σ.2.2.1 3) (L.1 1) = hdL (uN (σ.2.2.1 3 (uN (L.1 1)))) := if_pos cx
  have fx := hq.2.2.2.2.2.2.2.2.2.1 k5
  have e1 : uN (L.1 1 + 1 + L.1 2) = uN (L.1 1) + 1 + uN (L.1 2) := by
    rw [u_add (by rw [u_inc (by omega)]; omega), u_inc (by omega)]
  refine Tm_suc (fun k => by rw [y_X0_load]) ?_
  refine Tm_chk ⟨?_, ?_, ?_, ?_, ?_⟩ ?_
  · show ¬ L.1 1 + 1 + L.1 2 < 0
    rw [u_neg]; omega
  · show ¬ L.1 4 < 0
    rw [u_neg]; omega
  · show ¬ N < 0
    rw [u_neg]; omega
  · show (L.1 1 + 1 + L.1 2).toNatClampNeg + N.toNatClampNeg ≤ sN σ 3
    rw [u_cl (by omega), u_cl (by omega)]; omega
  · show (L.1 4).toNatClampNeg + N.toNatClampNeg ≤ 2048
    rw [u_cl (by omega), u_cl (by omega)]; omega
  refine Tm_some ⟨_, rfl, ?_, ?_, ?_⟩
  · show uN (L.1 4 + N) ≤ 2048
    rw [u_add (by omega)]; omega
  · show ∀ j, j < uN (L.1 4 + N) → Gv g (va_cpy (σ.2.2.1 3) (σ.2.2.1 16) (L.1 1 + 1 + L.1 2).toNatClampNeg (L.1 4).toNatClampNeg N.toNatClampNeg j)
    intro j hj
    rw [u_add (by omega)] at hj
    rw [u_cl (x := L.1 1 + 1 + L.1 2) (by omega), u_cl (x := L.1 4) (by omega), u_cl (x := N) (by omega), e1]
    unfold va_cpy
    by_cases c : uN (L.1 4) ≤ j ∧ j < uN (L.1 4) + uN N
    · rw [if_pos c, show uN (L.1 1) + 1 + uN (L.1 2) + (j - uN (L.1 4)) = uN (L.1 1) + 1 + (uN (L.1 2) + (j - uN (L.1 4))) from by omega]
      exact (fx.2.2 _ (by omega)).1
    · rw [if_neg c]
      exact hr j (by omega)
  · intro _ z2 z3
    show uN (L.1 4 + N) = _
    rw [u_add (by omega)]
    have e : uN (L.1 3 - L.1 2) = uN (L.1 3) - uN (L.1 2) := u_sub z2
    split at hN
    · rename_i c
      rw [u_ltn (by omega) (by omega), eA, e] at c
      omega
    · rw [← hN, e]
/-- a map -/
def MpV (g : Nat → Prop) (σ : CS) (x : Int32) : Prop := Gv g x ∧ uN x < 2147483648 ∧ kdC (σ.2.2.1 3) x = 6 ∧ uN (σ.2.2.1 3 (uN x)) / 8 % 2 = 1
theorem MpV_X (w : AXf σ σ') (h : MpV g σ x) : MpV g σ' x := by
  unfold MpV
  rw [w.2.2.1 3 (by decide)]
  exact h
theorem MpV_s (h : MpV g σ x) : Sq5 g σ x := Sq5_k h.1 (by have := h.2.2.1; omega)
/-- its members are pairs -/
theorem mp_sq (h : HQ g l t σ) (m : MpV g σ x) (y : Int32) : Sq5 g σ (mbC (σ.2.2.1 3) x y) := by
  have gm := mbC_g (y := y) h m.1 (MpV_s m).2
  refine ⟨gm, fun c => ?_⟩
  have cg := (HQ_c h (Gv_c m.1 m.2.1).2).2.2.2.2.2.2.2.2.2.2
  have k6 := m.2.2.1
  unfold kdC at k6
  rw [if_pos m.2.1] at k6
  by_cases d : uN x < 2147483648 ∧ uN y < lnC (σ.2.2.1 3) x
  · have e : mbC (σ.2.2.1 3) x y = σ.2.2.1 3 (uN x + 1 + uN y) := if_pos d
    rw [e] at c ⊢
    have dl := d.2
    unfold lnC at dl
    rw [if_pos m.2.1] at dl
    have q := (cg k6 m.2.2.2 (uN y) dl).2
    unfold kdC
    rw [if_pos c]
    unfold hdK
    omega
  · have e : mbC (σ.2.2.1 3) x y = -2147483648 := if_neg d
    rw [e] at c
    exact absurd c (by decide)
theorem c_pairsFrom (h : HQ g l t σ) (hx : MpV g σ (L.1 1)) (hy : Gv g (L.1 2)) : Tm (fun k => y_X0_pairsFrom k 0 L σ) (fun r => r.2 = σ ∧ uN r.1 ≤ lnC (σ.2.2.1 3) (L.1 1)) := by
  have ll := lnC_lt (σ.2.2.1 3) (L.1 1)
  have sx := MpV_s hx
  have b2 : ∀ L' : LV, uN (L'.1 3) ≤ lnC (σ.2.2.1 3) (L.1 1) → Tm (fun k => y_X0_pairsFrom k 2 L' σ) (fun r => r.2 = σ ∧ uN r.1 ≤ lnC (σ.2.2.1 3) (L.1 1)) := by
    intro L' a
    refine Tm_suc (fun k => by rw [y_X0_pairsFrom]) ?_
    exact Tm_some ⟨rfl, a⟩
  have b1 : ∀ (m : Nat) (L' : LV), uN (L'.1 5) + m = 32 → L'.1 1 = L.1 1 → L'.1 2 = L.1 2 → uN (L'.1 3) ≤ lnC (σ.2.2.1 3) (L.1 1) → uN (L'.1 4) ≤ lnC (σ.2.2.1 3) (L.1 1) → Tm (fun k => y_X0_pairsFrom k 1 L' σ) (fun r => r.2 = σ ∧ uN r.1 ≤ lnC (σ.2.2.1 3) (L.1 1)) := by
    intro m
    induction m with
    | zero =>
      intro L' a6 a1 a3 a4 a5
      refine Tm_suc (fun k => by rw [y_X0_pairsFrom]) ?_
      exact Tm_yes (by rw [u_le (by decide) (by omega)]; show 32 ≤ _; omega) (b2 _ a4)
    | succ m ih =>
      intro L' a6 a1 a3 a4 a5
      have b4 : ∀ L2 : LV, L2.1 5 = L'.1 5 → L2.1 1 = L.1 1 → L2.1 2 = L.1 2 → uN (L2.1 3) ≤ lnC (σ.2.2.1 3) (L.1 1) → uN (L2.1 4) ≤ lnC (σ.2.2.1 3) (L.1 1) → Tm (fun k => y_X0_pairsFrom k 4 L2 σ) (fun r => r.2 = σ ∧ uN r.1 ≤ lnC (σ.2.2.1 3) (L.1 1)) := by
        intro L2 z6 z1 z3 z4 z5
        refine Tm_suc (fun k => by rw [y_X0_pairsFrom]) ?_
        refine ih _ ?_ ?_ ?_ ?_ ?_
        · show uN (L2.1 5 + 1) + m = 32
          rw [z6, u_inc (by omega)]; omega
        · exact z1
        · exact z3
        · exact z4
        · exact z5
      have eh : uN ((((L'.1 3) + (L'.1 4)).toUInt32 >>> ((1 : Int32).toUInt32 &&& Int32.toUInt32 31)).toInt32) = (uN (L'.1 3) + uN (L'.1 4)) / 2 := by
        rw [u_shr1, u_add (by omega)]
      have hx' : MpV g σ (L'.1 1) := by rw [a1]; exact hx
      have sx' := MpV_s hx'
      refine Tm_suc (fun k => by rw [y_X0_pairsFrom]) ?_
      refine Tm_ite (fun _ => b2 _ a4) (fun _ => Tm_ite (fun _ => b2 _ a4) (fun c => ?_))
      rw [u_le (by omega) (by omega)] at c
      refine Tm_ocE (c_member h sx'.1 sx'.2) ?_
      have sp := mp_sq h hx' ((((L'.1 3) + (L'.1 4)).toUInt32 >>> ((1 : Int32).toUInt32 &&& Int32.toUInt32 31)).toInt32)
      refine Tm_ocE (c_member h sp.1 sp.2) ?_
      refine Tm_oc (c_compare h (mbC_g h sp.1 sp.2) (by show Gv g (L'.1 2); rw [a3]; exact hy)) (fun r hr => ?_)
      have e : r.2 = σ := hr
      rw [e]
      refine Tm_ite (fun _ => ?_) (fun _ => ?_)
      · refine Tm_suc (fun k => by rw [y_X0_pairsFrom]) ?_
        refine b4 _ ?_ ?_ ?_ ?_ ?_
        · rfl
        · exact a1
        · exact a3
        · exact a4
        · show uN ((((L'.1 3) + (L'.1 4)).toUInt32 >>> ((1 : Int32).toUInt32 &&& Int32.toUInt32 31)).toInt32) ≤ _
          omega
      · refine b4 _ ?_ ?_ ?_ ?_ ?_
        · rfl
        · exact a1
        · exact a3
        · show uN ((((L'.1 3) + (L'.1 4)).toUInt32 >>> ((1 : Int32).toUInt32 &&& Int32.toUInt32 31)).toInt32 + 1) ≤ _
          rw [u_inc (by omega)]; omega
        · exact a5
  refine Tm_suc (fun k => by rw [y_X0_pairsFrom]) ?_
  refine Tm_ocE (c_length h sx.1) ?_
  refine b1 32 _ ?_ ?_ ?_ ?_ ?_
  · rfl
  · rfl
  · rfl
  · exact Nat.zero_le _
  · show uN (nI (lnC (σ.2.2.1 3) (L.1 1))) ≤ _
    rw [u_n (by omega)]; exact Nat.le_refl _
theorem c_pairsTo (h : HQ g l t σ) (hx : MpV g σ (L.1 1)) (hy : Gv g (L.1 3)) (hf : uN (L.1 2) ≤ lnC (σ.2.2.1 3) (L.1 1)) : Tm (fun k => y_X0_pairsTo k 0 L σ) (fun r => r.2 = σ ∧ uN (L.1 2) ≤ uN r.1 ∧ uN r.1 ≤ lnC (σ.2.2.1 3) (L.1 1)) := by
  have ll := lnC_lt (σ.2.2.1 3) (L.1 1)
  have b2 : ∀ L' : LV, uN (L.1 2) ≤ uN (L'.1 4) → uN (L'.1 4) ≤ lnC (σ.2.2.1 3) (L.1 1) → Tm (fun k => y_X0_pairsTo k 2 L' σ) (fun r => r.2 = σ ∧ uN (L.1 2) ≤ uN r.1 ∧ uN r.1 ≤ lnC (σ.2.2.1 3) (L.1 1)) := by
    intro L' a b
    refine Tm_suc (fun k => by rw [y_X0_pairsTo]) ?_
    exact Tm_some ⟨rfl, a, b⟩
  have b1 : ∀ (m : Nat) (L' : LV), uN (L'.1 5) + m = lnC (σ.2.2.1 3) (L.1 1) → L'.1 1 = L.1 1 → L'.1 3 = L.1 3 → L'.1 4 = L'.1 5 → uN (L.1 2) ≤ uN (L'.1 5) → Tm (fun k => y_X0_pairsTo k 1 L' σ) (fun r => r.2 = σ ∧ uN (L.1 2) ≤ uN r.1 ∧ uN r.1 ≤ lnC (σ.2.2.1 3) (L.1 1)) := by
    intro m
    induction m with
    | zero =>
      intro L' a5 a1 a3 a4 af
      refine Tm_suc (fun k => by rw [y_X0_pairsTo]) ?_
      refine Tm_ocE (c_length h (by show Gv g (L'.1 1); rw [a1]; exact hx.1)) ?_
      refine Tm_yes ?_ (b2 _ (by rw [a4]; exact af) (by rw [a4]; omega))
      show nI (lnC (σ.2.2.1 3) (L'.1 1)) ≤ L'.1 5
      rw [a1, u_le (by rw [u_n (by omega)]; omega) (by omega), u_n (by omega)]
      omega
    | succ m ih =>
      intro L' a5 a1 a3 a4 af
      have hx' : MpV g σ (L'.1 1) := by rw [a1]; exact hx
      have sx' := MpV_s hx'
      have sp := mp_sq h hx' (L'.1 5)
      refine Tm_suc (fun k => by rw [y_X0_pairsTo]) ?_
      refine Tm_ocE (c_length h sx'.1) ?_
      refine Tm_ite (fun _ => b2 _ (by rw [a4]; exact af) (by rw [a4]; omega)) (fun _ => ?_)
      refine Tm_ocE (c_member h sx'.1 sx'.2) ?_
      refine Tm_ocE (c_member h sp.1 sp.2) ?_
      refine Tm_oc (c_compare h (mbC_g h sp.1 sp.2) (by show Gv g (L'.1 3); rw [a3]; exact hy)) (fun r hr => ?_)
      have e : r.2 = σ := hr
      rw [e]
      refine Tm_ite (fun _ => ?_) (fun _ => b2 _ (by rw [a4]; exact af) (by rw [a4]; omega))
      have e5 : uN (L'.1 5 + 1) = uN (L'.1 5) + 1 := u_inc (by omega)
      refine ih _ ?_ ?_ ?_ ?_ ?_
      · show uN (L'.1 5 + 1) + m = _; omega
      · exact a1
      · exact a3
      · rfl
      · show _ ≤ uN (L'.1 5 + 1); omega
  refine Tm_suc (fun k => by rw [y_X0_pairsTo]) ?_
  refine b1 (lnC (σ.2.2.1 3) (L.1 1) - uN (L.1 2)) _ ?_ ?_ ?_ ?_ ?_
  · show uN (L.1 2) + _ = _; omega
  · rfl
  · rfl
  · rfl
  · exact Nat.le_refl _
theorem c_images (h : HQ g l t σ) (hx : MpV g σ (L.1 1)) (hy : Gv g (L.1 2)) : Tm (fun k => y_X0_images k 0 L σ) (Va g t σ) := by
  have ll := lnC_lt (σ.2.2.1 3) (L.1 1)
  have b2 : ∀ (L' : LV) (σ' : CS), AXf σ σ' → uN (L'.1 5) ≤ 2048 → (∀ j, j < uN (L'.1 5) → Gv g (σ'.2.2.1 16 j)) → Tm (fun k => y_X0_images k 2 L' σ') (Va g t σ) := by
    intro L' σ' w a4 hr
    refine Tm_suc (fun k => by rw [y_X0_images]) ?_
    exact Tm_oc (mk16 (n := 0) h w (Or.inr rfl) rfl rfl a4 hr) (fun r z => Tm_some z)
  have b1 : ∀ (m : Nat) (L' : LV) (σ' : CS), AXf σ σ' → L'.1 1 = L.1 1 → uN (L'.1 4) ≤ 4096 → uN (L'.1 6) + m = 4097 → uN (L'.1 5) ≤ 2048 → (∀ j, j < uN (L'.1 5) → Gv g (σ'.2.2.1 16 j)) → Tm (fun k => y_X0_images k 1 L' σ') (Va g t σ) := by
    intro m
    induction m with
    | zero =>
      intro L' σ' w a1 a4 a6 a5 hr
      refine Tm_suc (fun k => by rw [y_X0_images]) ?_
      exact Tm_yes (by rw [u_le (by omega) (by omega)]; omega) (b2 _ _ w a5 hr)
    | succ m ih =>
      intro L' σ' w a1 a4 a6 a5 hr
      have h' := HQ_X h w
      have hx' : MpV g σ' (L'.1 1) := MpV_X w (by rw [a1]; exact hx)
      have sx' := MpV_s hx'
      have sp := mp_sq h' hx' (L'.1 6)
      refine Tm_suc (fun k => by rw [y_X0_images]) ?_
      refine Tm_ite (fun _ => b2 _ _ w a5 hr) (fun _ => Tm_ite (fun _ => b2 _ _ w a5 hr) (fun c => ?_))
      rw [u_le (by decide) (by omega)] at c
      have c' : uN (L'.1 5) < 2048 := Nat.lt_of_not_le c
      refine Tm_ocE (c_member h' sx'.1 sx'.2) ?_
      refine Tm_ocE (c_member h' sp.1 sp.2) ?_
      refine Tm_chk (u_in c' (by decide)) ?_
      have e5 : uN (L'.1 5 + 1) = uN (L'.1 5) + 1 := u_inc (by omega)
      refine ih _ _ (AXf_t w (AXf_A _ (by decide) _ _)) ?_ ?_ ?_ ?_ ?_
      · exact a1
      · exact a4
      · show uN (L'.1 6 + 1) + m = _
        rw [u_inc (by omega)]; omega
      · show uN (L'.1 5 + 1) ≤ 2048; omega
      · show ∀ j, j < uN (L'.1 5 + 1) → Gv g ((uA σ' 16 (L'.1 5).toNatClampNeg (mbC (σ'.2.2.1 3) (mbC (σ'.2.2.1 3) (L'.1 1) (L'.1 6)) 1)).2.2.1 16 j)
        rw [e5, u_cl (by omega)]
        exact r16_p hr (mbC_g h' sp.1 sp.2)
  refine Tm_suc (fun k => by rw [y_X0_images]) ?_
  refine Tm_oc (c_pairsFrom h hx hy) (fun r1 q1 => ?_)
  have e1 : r1.2 = σ := q1.1
  rw [e1]
  refine Tm_oc (c_pairsTo h hx hy q1.2) (fun r2 q2 => ?_)
  have e2 : r2.2 = σ := q2.1
  rw [e2]
  have p1 : uN r1.1 ≤ lnC (σ.2.2.1 3) (L.1 1) := q1.2
  have p2 : uN r2.1 ≤ lnC (σ.2.2.1 3) (L.1 1) := q2.2.2
  refine b1 (4097 - uN r1.1) _ _ (AXf_r σ) ?_ ?_ ?_ ?_ ?_
  · rfl
  · show uN r2.1 ≤ 4096; omega
  · show uN r1.1 + _ = _; omega
  · show uN 0 ≤ 2048; decide
  · intro j hj; exact absurd hj (Nat.not_lt_zero j)
end CRX
