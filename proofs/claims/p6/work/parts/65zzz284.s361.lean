/-! The class: parts and rows of values. -/
section CRY
variable {g g' g2 : Nat → Prop} {l l' l2 : List Nat} {t t' t2 : Nat} {σ σ' σ2 : CS} {L : LV} {x y i : Int32} {M M' : Nat → Int32}
/-- a whole as a place -/
def clC (M : Nat → Int32) (x : Int32) : Int32 := if uN x < 2147483648 then (if uN (M (uN x)) / 8 % 2 = 0 then 134217728 else -134217728) else (x <<< ((4 : Int32) &&& 31)) >>> ((4 : Int32) &&& 31)
theorem c_clampedE (h : HQ g l t σ) (hx : Gv g (L.1 1)) : Tm (fun k => y_X10_clamped k 0 L σ) (fun r => r = (clC (σ.2.2.1 3) (L.1 1), σ)) := by
  unfold clC
  refine Tm_suc (fun k => by rw [y_X10_clamped]) ?_
  refine Tm_ite (fun c => ?_) (fun c => ?_)
  · rw [u_nn] at c
    rw [if_pos c]
    refine Tm_suc (fun k => by rw [y_X10_clamped]) ?_
    refine Tm_chk (in_g h hx c) ?_
    refine Tm_ite (fun d => ?_) (fun d => ?_)
    · rw [e_flg, u_cl c] at d
      rw [if_pos d]
      refine Tm_suc (fun k => by rw [y_X10_clamped]) ?_
      refine Tm_suc (fun k => by rw [y_X10_clamped]) ?_
      exact Tm_some rfl
    · rw [e_flg, u_cl c] at d
      rw [if_neg d]
      refine Tm_suc (fun k => by rw [y_X10_clamped]) ?_
      exact Tm_some rfl
  · rw [u_nn] at c
    rw [if_neg c]
    exact Tm_some rfl
theorem c_domain (h : HQ g l t σ) (hx : MpV g σ (L.1 1)) : Tm (fun k => y_X0_domain k 0 L σ) (Va g t σ) := by
  have ll := lnC_lt (σ.2.2.1 3) (L.1 1)
  have b2 : ∀ (L' : LV) (σ' : CS), AXf σ σ' → uN (L'.1 2) ≤ 2048 → (∀ j, j < uN (L'.1 2) → Gv g (σ'.2.2.1 16 j)) → Tm (fun k => y_X0_domain k 2 L' σ') (Va g t σ) := by
    intro L' σ' w a4 hr
    refine Tm_suc (fun k => by rw [y_X0_domain]) ?_
    exact Tm_oc (mk16 (n := 0) h w (Or.inr rfl) rfl rfl a4 hr) (fun r z => Tm_some z)
  have b1 : ∀ (m : Nat) (L' : LV) (σ' : CS), AXf σ σ' → L'.1 1 = L.1 1 → uN (L'.1 3) + m = lnC (σ.2.2.1 3) (L.1 1) → uN (L'.1 2) ≤ 2048 → (∀ j, j < uN (L'.1 2) → Gv g (σ'.2.2.1 16 j)) → Tm (fun k => y_X0_domain k 1 L' σ') (Va g t σ) := by
    intro m
    induction m with
    | zero =>
      intro L' σ' w a1 a3 a2 hr
      have r3 : σ'.2.2.1 3 = σ.2.2.1 3 := w.2.2.1 3 (by decide)
      refine Tm_suc (fun k => by rw [y_X0_domain]) ?_
      refine Tm_ocE (c_length (HQ_X h w) (by show Gv g (L'.1 1); rw [a1]; exact hx.1)) ?_
      refine Tm_yes ?_ (b2 _ _ w a2 hr)
      show nI (lnC (σ'.2.2.1 3) (L'.1 1)) ≤ L'.1 3
      rw [r3, a1, u_le (by rw [u_n (by omega)]; omega) (by omega), u_n (by omega)]
      omega
    | succ m ih =>
      intro L' σ' w a1 a3 a2 hr
      have h' := HQ_X h w
      have hx' : MpV g σ' (L'.1 1) := MpV_X w (by rw [a1]; exact hx)
      have sx' := MpV_s hx'
      have sp := mp_sq h' hx' (L'.1 3)
      have b5 : ∀ (L2 : LV) (σ2 : CS), AXf σ σ2 → L2.1 1 = L.1 1 → L2.1 3 = L'.1 3 → uN (L2.1 2) ≤ 2048 → (∀ j, j < uN (L2.1 2) → Gv g (σ2.2.2.1 16 j)) → Tm (fun k => y_X0_domain k 5 L2 σ2) (Va g t σ) := by
        intro L2 σ2 w2 z1 z3 z2 zr
        refine Tm_suc (fun k => by rw [y_X0_domain]) ?_
        refine ih _ _ w2 ?_ ?_ ?_ ?_
        · exact z1
        · show uN (L2.1 3 + 1) + m = _
          rw [z3, u_inc (by omega)]; omega
        · exact z2
        · exact zr
      refine Tm_suc (fun k => by rw [y_X0_domain]) ?_
      refine Tm_ocE (c_length h' sx'.1) ?_
      refine Tm_ite (fun _ => b2 _ _ w a2 hr) (fun _ => Tm_ite (fun _ => b2 _ _ w a2 hr) (fun c => ?_))
      rw [u_le (by decide) (by omega)] at c
      have c' : uN (L'.1 2) < 2048 := Nat.lt_of_not_le c
      refine Tm_ocE (c_member h' sx'.1 sx'.2) ?_
      refine Tm_ocE (c_member h' sp.1 sp.2) ?_
      have gm := mbC_g (y := 0) h' sp.1 sp.2
      refine Tm_ite (fun _ => Tm_some (Va_e h w (by show 4026531840 ≤ uN (-268435453) ∧ ¬ uN (-268435453) % 16 = 0; decide))) (fun _ => ?_)
      have b4 : ∀ (L2 : LV), L2.1 1 = L.1 1 → L2.1 3 = L'.1 3 → L2.1 2 = L'.1 2 → Gv g (L2.1 4) → Tm (fun k => y_X0_domain k 4 L2 σ') (Va g t σ) := by
        intro L2 z1 z3 z2 z4
        refine Tm_suc (fun k => by rw [y_X0_domain]) ?_
        refine Tm_chk (u_in (by rw [z2]; exact c') (by decide)) ?_
        have e5 : uN (L2.1 2 + 1) = uN (L'.1 2) + 1 := by rw [z2, u_inc (by omega)]
        refine b5 _ _ (AXf_t w (AXf_A _ (by decide) _ _)) ?_ ?_ ?_ ?_
        · exact z1
        · exact z3
        · show uN (L2.1 2 + 1) ≤ 2048; omega
        · show ∀ j, j < uN (L2.1 2 + 1) → Gv g ((uA σ' 16 (L2.1 2).toNatClampNeg (L2.1 4)).2.2.1 16 j)
          rw [e5, z2, u_cl (by omega)]
          exact r16_p hr z4
      refine Tm_suc (fun k => by rw [y_X0_domain]) ?_
      refine Tm_ite (fun _ => ?_) (fun c0 => ?_)
      · refine b4 _ ?_ ?_ ?_ ?_
        · exact a1
        · rfl
        · rfl
        · exact gm
      · have c0' : ¬ L'.1 2 = 0 := c0
        rw [u_eq] at c0'
        have c1 : 1 ≤ uN (L'.1 2) := Nat.pos_of_ne_zero c0'
        have e1 : uN (L'.1 2 - 1) = uN (L'.1 2) - 1 := by rw [u_sub (by show 1 ≤ _; omega)]; rfl
        refine Tm_chk (u_in (by show uN (L'.1 2 - 1) < 2048; omega) (by decide)) ?_
        refine Tm_oc (c_same h' ?_ gm) (fun r q => ?_)
        · show Gv g (σ'.2.2.1 16 (L'.1 2 - 1).toNatClampNeg)
          rw [u_cl (by omega), e1]
          exact hr _ (by omega)
        · have e : r.2 = σ' := q.1
          rw [e]
          refine Tm_ite (fun _ => ?_) (fun _ => ?_)
          · refine b4 _ ?_ ?_ ?_ ?_
            · exact a1
            · rfl
            · rfl
            · exact gm
          · exact b5 _ _ w a1 rfl a2 hr
  refine Tm_suc (fun k => by rw [y_X0_domain]) ?_
  refine b1 (lnC (σ.2.2.1 3) (L.1 1)) _ _ (AXf_r σ) ?_ ?_ ?_ ?_
  · rfl
  · show 0 + _ = _; omega
  · show uN 0 ≤ 2048; decide
  · intro j hj; exact absurd hj (Nat.not_lt_zero j)
theorem c_taken (h : HQ g l t σ) (hx : Gv g (L.1 1)) (hk : (kdC (σ.2.2.1 3) (L.1 1) = 4 ∧ uN (L.1 2) < lnC (σ.2.2.1 3) (L.1 1)) ∨ 5 ≤ kdC (σ.2.2.1 3) (L.1 1)) : Tm (fun k => y_X1_taken k 0 L σ) (fun r => r.2 = σ ∧ Gv g r.1) := by
  have b2 : ∀ L' : LV, Gv g (L'.1 100) → Tm (fun k => y_X1_taken k 2 L' σ) (fun r => r.2 = σ ∧ Gv g r.1) := by
    intro L' d
    refine Tm_suc (fun k => by rw [y_X1_taken]) ?_
    exact Tm_some ⟨rfl, d⟩
  refine Tm_suc (fun k => by rw [y_X1_taken]) ?_
  refine Tm_ocE (c_kind h hx) ?_
  refine Tm_ite (fun c => ?_) (fun c => ?_)
  · have k4 : kdC (σ.2.2.1 3) (L.1 1) = 4 := kd_n (n := 4) (by decide) c
    have i4 : uN (L.1 2) < lnC (σ.2.2.1 3) (L.1 1) := by
      rcases hk with z | z
      · exact z.2
      · omega
    refine Tm_oc (c_byteAt h hx (fun _ => ⟨k4, i4⟩)) (fun r q => ?_)
    have e : r.2 = σ := q.1
    rw [e]
    refine b2 _ (Or.inl ?_)
    show 2147483648 ≤ uN (-1073741824 ||| r.1) ∧ (uN (-1073741824 ||| r.1) < 3489660928 ∨ (4026531840 ≤ uN (-1073741824 ||| r.1) ∧ ¬ uN (-1073741824 ||| r.1) % 16 = 0))
    rw [u_orB (k := 8) (a := 12582912) q.2 (by decide)]
    have e0 : uN (-1073741824) = 3221225472 := rfl
    have := q.2
    omega
  · have k5 : 5 ≤ kdC (σ.2.2.1 3) (L.1 1) := by
      rcases hk with z | z
      · exact absurd (by show nI (kdC (σ.2.2.1 3) (L.1 1)) = 4; rw [z.1]; rfl) c
      · exact z
    refine Tm_suc (fun k => by rw [y_X1_taken]) ?_
    refine Tm_ocE (c_member h hx (fun _ => k5)) ?_
    exact b2 _ (mbC_g h hx (fun _ => k5))
theorem c_memberAt (h : HQ g l t σ) (hx : Gv g (L.1 1)) (hy : Gv g (L.1 2)) : Tm (fun k => y_X0_memberAt k 0 L σ) (Qv g σ) := by
  have ll := lnC_lt (σ.2.2.1 3) (L.1 1)
  have b7 : ∀ L' : LV, Gv g (L'.1 100) → Tm (fun k => y_X0_memberAt k 7 L' σ) (Qv g σ) := by
    intro L' d
    refine Tm_suc (fun k => by rw [y_X0_memberAt]) ?_
    exact Tm_some ⟨rfl, Or.inl d⟩
  have b9 : ∀ L' : LV, Gv g (L'.1 100) → Tm (fun k => y_X0_memberAt k 9 L' σ) (Qv g σ) := by
    intro L' d
    refine Tm_suc (fun k => by rw [y_X0_memberAt]) ?_
    exact Tm_some ⟨rfl, Or.inl d⟩
  have b1 : (kdC (σ.2.2.1 3) (L.1 1) = 4 ∨ kdC (σ.2.2.1 3) (L.1 1) = 5) → Tm (fun k => y_X0_memberAt k 1 L σ) (Qv g σ) := by
    intro k45
    refine Tm_suc (fun k => by rw [y_X0_memberAt]) ?_
    refine Tm_ocE (c_kind h hy) ?_
    refine Tm_ite (fun _ => ?_) (fun _ => Tm_some ⟨rfl, Or.inr eKind⟩)
    refine Tm_suc (fun k => by rw [y_X0_memberAt]) ?_
    refine Tm_ocE (c_clampedE h hy) ?_
    refine Tm_ite (fun c => ?_) (fun _ => Tm_some ⟨rfl, Or.inr ePlace⟩)
    have c1 : 1 ≤ uN (clC (σ.2.2.1 3) (L.1 2)) ∧ uN (clC (σ.2.2.1 3) (L.1 2)) < 2147483648 := by
      have c' : (1 : Int32) ≤ clC (σ.2.2.1 3) (L.1 2) := c
      rw [i_le, u_int (clC (σ.2.2.1 3) (L.1 2))] at c'
      have c2 : 1 ≤ (if uN (clC (σ.2.2.1 3) (L.1 2)) < 2147483648 then (uN (clC (σ.2.2.1 3) (L.1 2)) : Int) else (uN (clC (σ.2.2.1 3) (L.1 2)) : Int) - 4294967296) := c'
      have := u_lt (clC (σ.2.2.1 3) (L.1 2))
      split at c2 <;> omega
    refine Tm_suc (fun k => by rw [y_X0_memberAt]) ?_
    refine Tm_ocE (c_length h hx) ?_
    refine Tm_ite (fun _ => ?_) (fun d => ?_)
    · refine Tm_suc (fun k => by rw [y_X0_memberAt]) ?_
      exact b9 _ (Gv_om g)
    · have d' : ¬ nI (lnC (σ.2.2.1 3) (L.1 1)) < clC (σ.2.2.1 3) (L.1 2) := d
      rw [u_ltn (by rw [u_n (by omega)]; omega) c1.2, u_n (by omega)] at d'
      have e1 : uN (clC (σ.2.2.1 3) (L.1 2) - 1) = uN (clC (σ.2.2.1 3) (L.1 2)) - 1 := by
        rw [u_sub (by show 1 ≤ _; omega)]; rfl
      refine Tm_oc (c_taken h hx ?_) (fun r q => ?_)
      · rcases k45 with z | z
        · left
          refine ⟨z, ?_⟩
          show uN (clC (σ.2.2.1 3) (L.1 2) - 1) < lnC (σ.2.2.1 3) (L.1 1)
          omega
        · right
          show 5 ≤ kdC (σ.2.2.1 3) (L.1 1)
          omega
      · have e : r.2 = σ := q.1
        rw [e]
        exact b9 _ q.2
  refine Tm_suc (fun k => by rw [y_X0_memberAt]) ?_
  refine Tm_ocE (c_kind h hx) ?_
  refine Tm_ite (fun c => b1 (Or.inl (kd_n (n := 4) (by decide) c))) (fun _ => Tm_ite (fun c => b1 (Or.inr (kd_n (n := 5) (by decide) c))) (fun _ => ?_))
  refine Tm_suc (fun k => by rw [y_X0_memberAt]) ?_
  refine Tm_oc (c_isMap h hx) (fun r q => ?_)
  have e : r.2 = σ := q.1.1
  rw [e]
  refine Tm_ite (fun _ => Tm_some ⟨rfl, Or.inr eKind⟩) (fun c => ?_)
  have mp : MpV g σ (L.1 1) := ⟨hx, q.2 c⟩
  have sx := MpV_s mp
  refine Tm_suc (fun k => by rw [y_X0_memberAt]) ?_
  refine Tm_oc (c_pairsFrom h mp hy) (fun r1 q1 => ?_)
  have e1 : r1.2 = σ := q1.1
  rw [e1]
  refine Tm_oc (c_pairsTo h mp hy q1.2) (fun r2 q2 => ?_)
  have e2 : r2.2 = σ := q2.1
  rw [e2]
  refine Tm_ite (fun _ => ?_) (fun _ => ?_)
  · refine Tm_ocE (c_member h sx.1 sx.2) ?_
    have sp := mp_sq h mp r1.1
    refine Tm_ocE (c_member h sp.1 sp.2) ?_
    exact b7 _ (mbC_g h sp.1 sp.2)
  · refine Tm_suc (fun k => by rw [y_X0_memberAt]) ?_
    exact b7 _ (Gv_om g)
theorem c_rowError (h : HQ g l t σ) (hf : Gv g (L.1 1)) (hi : Gv g (L.1 2)) (hj : Gv g (L.1 3)) : Tm (fun k => y_X0_rowError k 0 L σ) (fun r => r.2 = σ ∧ (r.1 = 0 ∨ Rw r.1) ∧ (r.1 = 0 → (kdC (σ.2.2.1 3) (L.1 1) = 4 ∨ kdC (σ.2.2.1 3) (L.1 1) = 5) ∧ 1 ≤ uN (clC (σ.2.2.1 3) (L.1 2)) ∧ uN (clC (σ.2.2.1 3) (L.1 2)) ≤ uN (clC (σ.2.2.1 3) (L.1 3)) + 1 ∧ uN (clC (σ.2.2.1 3) (L.1 3)) ≤ lnC (σ.2.2.1 3) (L.1 1))) := by
  have ll := lnC_lt (σ.2.2.1 3) (L.1 1)
  have raw : ∀ z : Int32, Rw z → ¬ z = 0 := fun z hz e => by
    rw [e] at hz
    exact absurd hz.1 (by show ¬ 4026531840 ≤ uN 0; decide)
  have b2 : ∀ L' : LV, Tm (fun k => y_X0_rowError k 2 L' σ) (fun r => r.2 = σ ∧ (r.1 = 0 ∨ Rw r.1) ∧ (r.1 = 0 → (kdC (σ.2.2.1 3) (L.1 1) = 4 ∨ kdC (σ.2.2.1 3) (L.1 1) = 5) ∧ 1 ≤ uN (clC (σ.2.2.1 3) (L.1 2)) ∧ uN (clC (σ.2.2.1 3) (L.1 2)) ≤ uN (clC (σ.2.2.1 3) (L.1 3)) + 1 ∧ uN (clC (σ.2.2.1 3) (L.1 3)) ≤ lnC (σ.2.2.1 3) (L.1 1))) := by
    intro L'
    refine Tm_suc (fun k => by rw [y_X0_rowError]) ?_
    exact Tm_some ⟨rfl, Or.inr eKind, fun z => absurd z (raw _ eKind)⟩
  have b4 : ∀ L' : LV, Tm (fun k => y_X0_rowError k 4 L' σ) (fun r => r.2 = σ ∧ (r.1 = 0 ∨ Rw r.1) ∧ (r.1 = 0 → (kdC (σ.2.2.1 3) (L.1 1) = 4 ∨ kdC (σ.2.2.1 3) (L.1 1) = 5) ∧ 1 ≤ uN (clC (σ.2.2.1 3) (L.1 2)) ∧ uN (clC (σ.2.2.1 3) (L.1 2)) ≤ uN (clC (σ.2.2.1 3) (L.1 3)) + 1 ∧ uN (clC (σ.2.2.1 3) (L.1 3)) ≤ lnC (σ.2.2.1 3) (L.1 1))) := by
    intro L'
    refine Tm_suc (fun k => by rw [y_X0_rowError]) ?_
    refine Tm_suc (fun k => by rw [y_X0_rowError]) ?_
    exact Tm_some ⟨rfl, Or.inr ePlace, fun z => absurd z (raw _ ePlace)⟩
  have b1 : (kdC (σ.2.2.1 3) (L.1 1) = 4 ∨ kdC (σ.2.2.1 3) (L.1 1) = 5) → Tm (fun k => y_X0_rowError k 1 L σ) (fun r => r.2 = σ ∧ (r.1 = 0 ∨ Rw r.1) ∧ (r.1 = 0 → (kdC (σ.2.2.1 3) (L.1 1) = 4 ∨ kdC (σ.2.2.1 3) (L.1 1) = 5) ∧ 1 ≤ uN (clC (σ.2.2.1 3) (L.1 2)) ∧ uN (clC (σ.2.2.1 3) (L.1 2)) ≤ uN (clC (σ.2.2.1 3) (L.1 3)) + 1 ∧ uN (clC (σ.2.2.1 3) (L.1 3)) ≤ lnC (σ.2.2.1 3) (L.1 1))) := by
    intro k45
    refine Tm_suc (fun k => by rw [y_X0_rowError]) ?_
    refine Tm_ocE (c_kind h hi) ?_
    refine Tm_ite (fun _ => ?_) (fun _ => b2 _)
    refine Tm_ocE (c_kind h hj) ?_
    refine Tm_ite (fun _ => ?_) (fun _ => b2 _)
    refine Tm_suc (fun k => by rw [y_X0_rowError]) ?_
    refine Tm_ocE (c_clampedE h hi) ?_
    refine Tm_ocE (c_clampedE h hj) ?_
    generalize hc : clC (σ.2.2.1 3) (L.1 2) = c at *
    generalize hd : clC (σ.2.2.1 3) (L.1 3) = d at *
    refine Tm_ite (fun _ => b4 _) (fun c1 => Tm_ite (fun _ => b4 _) (fun c2 => ?_))
    refine Tm_ocE (c_length h hf) ?_
    refine Tm_ite (fun _ => b4 _) (fun c3 => ?_)
    have c1' : ¬ c < 1 := by rw [← hc]; exact c1
    have c2' : ¬ d < c - 1 := by rw [← hc, ← hd]; exact c2
    have c3' : ¬ nI (lnC (σ.2.2.1 3) (L.1 1)) < d := by rw [← hd]; exact c3
    have uc := u_lt c
    have ud := u_lt d
    have p1 : 1 ≤ uN c ∧ uN c < 2147483648 := by
      rw [i_lt, u_int c] at c1'
      have z : ¬ (if uN c < 2147483648 then (uN c : Int) else (uN c : Int) - 4294967296) < 1 := c1'
      split at z <;> omega
    have e1 : uN (c - 1) = uN c - 1 := by rw [u_sub (by show 1 ≤ _; omega)]; rfl
    have p2 : uN d < 2147483648 := by
      rcases Nat.lt_or_ge (uN d) 2147483648 with z | z
      · exact z
      · exfalso
        rw [i_lt, u_int, u_int, if_neg (by omega), if_pos (by omega)] at c2'
        omega
    rw [u_ltn p2 (by omega), e1] at c2'
    rw [u_ltn (by rw [u_n (by omega)]; omega) p2, u_n (by omega)] at c3'
    refine Tm_suc (fun k => by rw [y_X0_rowError]) ?_
    exact Tm_some ⟨rfl, Or.inl rfl, fun _ => ⟨k45, p1.1, by omega, by omega⟩⟩
  refine Tm_suc (fun k => by rw [y_X0_rowError]) ?_
  refine Tm_ocE (c_kind h hf) ?_
  exact Tm_ite (fun c => b1 (Or.inl (kd_n (n := 4) (by decide) c))) (fun _ => Tm_ite (fun c => b1 (Or.inr (kd_n (n := 5) (by decide) c))) (fun _ => b2 _))
end CRY
