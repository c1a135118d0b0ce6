/-! The class: what a param gives back is kept. -/
section CXJ
variable {σ σ' σ0 τ τ' τ0 : CS} {L : LV} {b : Bool} {T : Nat → Int32} {n q q' u al o v mk mk' p sz szB szE nc nc0 sz0 mk0 a1 a2 m kk f e s ow a t0 g D op w st w' st' M nm deep : Nat} {y qh qh' : Int32} {l l' cs cs' ll lt : List Int32} {tb : List Ent} {E : En} {gl : Nat × (Nat → Nat → Prop)} {Vm : Nat → Prop} {Pc : Nat → Nat → Prop} {bt : BT} {ks : List Nat} {α : Type} {S : α → Int32 → CS → Prop} {x : Option α} {C : Prop} {lo lo' : Option Nat} {pl : List (List Int32 × Nat)}
theorem c_keepT (h : QS T n b u al tb o q v mk 0 sz σ) (zf : ZF b u w st lo qh σ) (u42 : u < 42) (h18 : σ.1 4018 = nI mk) (h19 : σ.1 4019 = nI pl.length) (h20 : σ.1 4020 = nI nm) (hnm : nm < tb.length) (hs : (tb.getD nm e0E).2.2.2.1 = s ∧ (tb.getD nm e0E).2.2.1 = ow) (how : ow < 42) (hg : g = if ow = u then 0 else 1) (pm : PtM σ mk (szE + 1) pl) (pg : PtG u 0 gl Vm pl) (hN : mk + 3 * pl.length ≤ sN σ 41) (hE : sz = szE + 1 + (ptC pl).length) (hc : ∀ j, j < (ptC pl).length → cdr b σ (szE + 1 + j) = (ptC pl).getD j 0) (kp : Kpt lt σ) (l1 : L.1 1 = nI deep) (hd : deep < 1000) (hz : sz + (kyC pl).length + pl.length + 5 ≤ 36864) (hl : lt.length + (kyC pl).length + pl.length + 5 ≤ 16384) : Tm (fun k => f_X5_keepTarget k 0 L σ) (ZPo b u tb.length sz mk (some ()) (fun _ _ τ' => QS T n b u al tb o q v mk 0 sz τ' ∧ ZF b u w st lo qh τ' ∧ Kpt (lt ++ kpW g s deep pl) τ') σ 0 0) := by
  have s0 := Zy_0 h zf
  have s0' : Zy T n b u al σ tb.length sz mk 0 0 tb o q v mk w st lo qh sz ([] ++ []) σ := s0
  have h41 := h.2.2.1.2.2
  have t256 := h.2.2.2.1.2.1
  have fc := fP_c b 1
  have es : σ.1 (fP b 1) = nI sz := h.2.1.1
  have wb := wdN_b (kdP pl)
  have kb := kdP_l pl
  obtain ⟨hs1, hs2⟩ := hs
  refine Tm_suc (fun k => by rw [f_X5_keepTarget]) ?_
  refine Tm_oP (Zy_pp s0) ?_
  rw [es]
  refine c_kpL (N := pl.length) (eN := sz) (deep := deep) (cs := []) h18 h19 hN h41 rfl pl 0 0 (szE + 1) [] _ σ 0 0 pm pg hc (by omega) (by omega) (Nat.le_refl _) l1 rfl rfl rfl s0' (CdF_r b σ) (fun _ _ => rfl) (by show sz + 0 + _ ≤ _; omega) (fun L2 τ2 n1 n2 j1 j2 j3 s2 cf2 cb2 => ?_)
  rw [Nat.zero_add] at j3
  have s2' : Zy T n b u al σ tb.length sz mk n1 n2 tb o q v mk w st lo qh sz (kyC pl) τ2 := s2
  refine Tm_suc (fun k => by rw [f_X5_keepTarget]) ?_
  refine Tm_oP (Zy_pp s2') ?_
  rw [j3, j1, n_add (by omega)]
  refine ztc_emit (op := 38) s2' rfl rfl (by omega) (fun τ3 n3 n4 s3 co3 => ?_)
  refine Tm_oP (Zy_pp s3) (Tm_oP (Zy_pp s3) ?_)
  have cf3 := CdF_t cf2 co3.1
  have e20 : τ3.1 4020 = nI nm := by rw [cf3.1 _ (by omega)]; exact h20
  have e03 : τ3.1 4003 = nI u := s3.1.1.2.2.2.2.1.2.1
  obtain ⟨t1, t2, t3, t4, t5, t6, t7⟩ := s3.1.1.2.2.2.1.2.2 nm hnm
  rw [hs2] at t5
  rw [hs1] at t6
  have lk1 : ∀ w : Int32, (kyC pl ++ [w]).length = (kyC pl).length + 1 := fun w => by rw [List.length_append]; rfl
  have b6 : ∀ L6 : LV, L6.1 2 = nI sz → L6.1 3 = nI (wdN (kdP pl)) → L6.1 100 = nI g → L6.1 101 = nI 192 → L6.2.2.1 102 = b → Tm (fun k => f_X5_keepTarget k 6 L6 τ3) (ZPo b u tb.length sz mk (some ()) (fun _ _ τ' => QS T n b u al tb o q v mk 0 sz τ' ∧ ZF b u w st lo qh τ' ∧ Kpt (lt ++ kpW g s deep pl) τ') σ (n1 + n3) (n2 + n4)) := by
    intro L6 i2 i3 i100 i101 i102
    have g1 : g ≤ 1 := by rw [hg]; split <;> omega
    refine Tm_suc (fun k => by rw [f_X5_keepTarget]) ?_
    refine Tm_oP (Zy_pp s3) ?_
    rw [e20]
    refine Tm_chk (n_in (by omega) (by omega)) ?_
    rw [n_cl (by omega), t6, i101, i100, n_add (by omega), i3, n_add1]
    refine ztc_emit (op := 192 + g) s3 i102 rfl (by rw [lk1]; omega) (fun τ4 n5 n6 s4 co4 => ?_)
    have lk2 : ∀ w w' : Int32, (kyC pl ++ [w] ++ [w']).length = (kyC pl).length + 2 := fun w w' => by rw [List.length_append, lk1]; rfl
    refine Tm_oP (Zy_pp s4) ?_
    refine ztc_word s4 rfl (by rw [lk2]; omega) (fun τ5 n7 n8 s5 co5 => ?_)
    have lk3 : ∀ w w' w'' : Int32, (kyC pl ++ [w] ++ [w'] ++ [w'']).length = (kyC pl).length + 3 := fun w w' w'' => by rw [List.length_append, lk2]; rfl
    refine Tm_oP (Zy_pp s5) ?_
    have cf5 := CdF_t (CdF_t cf3 co4.1) co5.1
    have e19 : τ5.1 4019 = nI pl.length := by rw [cf5.1 _ (by omega)]; exact h19
    rw [e19]
    refine ztc_word s5 rfl (by rw [lk3]; omega) (fun τ6 n9 n10 s6 co6 => ?_)
    have lk4 : ∀ w w' w'' x : Int32, (kyC pl ++ [w] ++ [w'] ++ [w''] ++ [x]).length = (kyC pl).length + 4 := fun w w' w'' x => by rw [List.length_append, lk3]; rfl
    have cf6 := CdF_t cf5 co6.1
    have s6' : Zy T n b u al σ tb.length sz mk (n1 + n3 + n5 + n7 + n9) (n2 + n4 + n6 + n8 + n10) tb o q v mk w st lo qh sz ([] ++ (kyC pl ++ [em 38 (nI (wdN (kdP pl) + deep))] ++ [em (192 + g) (nI s)] ++ [nI (wdN (kdP pl) + 1)] ++ [nI pl.length])) τ6 := s6
    refine c_kpK (eN := 0) (τ0 := σ) (N := pl.length) (cs := []) h18 h19 hN h41 pl 0 (szE + 1) _ _ τ6 _ _ (nI sz) (nI (wdN (kdP pl))) pm (by omega) i2 i3 rfl s6' cf6 (by rw [lk4]; show sz + 0 + _ + _ ≤ _; omega) (fun L7 τ7 n11 n12 r2 r3 s7 cf7 => ?_)
    have eW : [] ++ (kyC pl ++ [em 38 (nI (wdN (kdP pl) + deep))] ++ [em (192 + g) (nI s)] ++ [nI (wdN (kdP pl) + 1)] ++ [nI pl.length] ++ kdL (kdP pl)) ++ [em 37 (nI (wdN (kdP pl) + 1))] = [] ++ kpW g s deep pl := by
      unfold kpW rwL
      rw [kb]
      simp only [List.append_assoc, List.nil_append, List.cons_append]
    have l7 : ([] ++ (kyC pl ++ [em 38 (nI (wdN (kdP pl) + deep))] ++ [em (192 + g) (nI s)] ++ [nI (wdN (kdP pl) + 1)] ++ [nI pl.length] ++ kdL (kdP pl))).length = (kyC pl).length + pl.length + 4 := by
      rw [List.nil_append, List.length_append, lk4, kdL_l, kb]; omega
    refine Tm_suc (fun k => by rw [f_X5_keepTarget]) ?_
    refine Tm_oP (Zy_pp s7) ?_
    rw [r3, n_add1]
    refine ztc_emit (op := 37) s7 rfl rfl (by rw [l7]; omega) (fun τ8 n13 n14 s8 co8 => ?_)
    have s8' : Zy T n b u al σ tb.length sz mk (n11 + n13) (n12 + n14) tb o q v mk w st lo qh sz ([] ++ kpW g s deep pl) τ8 := by rw [← eW]; exact s8
    refine Tm_oP (Zy_pp s8') (Tm_oP (Zy_pp s8') ?_)
    have cf8 := CdF_t cf7 co8.1
    have r42 := cf8.2.2.1 42 (by decide)
    have kp8 : Kpt lt τ8 := ⟨⟨by rw [cf8.1 _ (by omega)]; exact kp.1.1, by rw [r42.2]; exact kp.1.2⟩, fun i hi => by rw [r42.1]; exact kp.2 i hi⟩
    have lw := kpW_l (g := g) (s := s) (deep := deep) (pl := pl)
    have es8 : τ8.1 (fP b 1) = nI (sz + (kpW g s deep pl).length) := s8'.1.1.2.1.1
    have ed : τ8.1 (fP b 1) - nI sz = nI (kpW g s deep pl).length := by
      rw [es8, n_sub (by omega) (by omega)]
      exact congrArg nI (by omega)
    have e2 : L7.1 2 = nI sz := r2
    rw [e2]
    refine zt_keep (a := sz) (ll := kpW g s deep pl) s8' kp8 rfl rfl ed (fun i hi => s8'.2.1 i hi) (by show sz + _ ≤ sz + _; exact Nat.le_refl _) (by rw [lw]; omega) (fun τ9 n15 n16 s9 kp9 _ => ?_)
    refine Tm_oP (Zy_pp s9) ?_
    have s10 := Zy_sz (cs := []) s9 (Nat.le_refl _)
    have s10' : Zy T n b u al σ tb.length sz mk (n11 + n13 + n15) (n12 + n14 + n16) tb o q v mk w st lo qh sz [] (uI τ9 (fP b 1) (nI sz)) := s10
    refine Tm_some (Zfin s10' ⟨s10'.1.1, s10'.2.2, ⟨⟨by rw [uI_o (by omega)]; exact kp9.1.1, kp9.1.2⟩, kp9.2⟩⟩)
  rw [e20]
  refine Tm_chk (n_in (by omega) (by omega)) ?_
  have eo : τ3.2.2.1 (pR8 b) (nI nm).toNatClampNeg = nI ow := by rw [n_cl (by omega)]; exact t5
  by_cases ho : ow = u
  · refine Tm_yes (by show τ3.2.2.1 (pR8 b) (nI nm).toNatClampNeg = τ3.1 4003; rw [eo, e03, ho]) ?_
    refine b6 _ j2 j3 ?_ rfl rfl
    rw [hg, if_pos ho]; rfl
  · refine Tm_no (by show ¬ τ3.2.2.1 (pR8 b) (nI nm).toNatClampNeg = τ3.1 4003; rw [eo, e03, n_eq (by omega) (by omega)]; exact ho) ?_
    refine Tm_suc (fun k => by rw [f_X5_keepTarget]) ?_
    refine b6 _ j2 j3 ?_ rfl rfl
    rw [hg, if_neg ho]; rfl
end CXJ
