/-! The class: takeFrom. -/
section CTK
variable {g g' g2 : Nat → Prop} {l l' l2 : List Nat} {t t' t2 : Nat} {σ σ' σ2 : CS} {L : LV} {x y i : Int32} {M M' U U' : Nat → Int32} {K K' K2 K2' K3 K4 K4' KB : Nat → Option Int32} {c : Ct} {B f0 u0 : Nat} {fs : List FrT} {u d : Nat} {r r' : List Nat} {pb nf nc sq rk : Nat}
theorem c_takeFrom (p : Pre c g l t K K2 K3 K4 B KB f0 u0 σ fs u d r pb nf nc sq) {pc : Nat} (hd : 1 ≤ d) (h2 : L.1 2 = nI pc) (hp : pc + 1 < tcN c) (hN : tcN c ≤ 36864) (nE : Nx c (uN (nI pc + tcC c (pc + 1))) u (d + 1) r rk) (nS : NxS c (pc + 2) u (d + 1) r) : Tm (fun k => f_X3_takeFrom k 0 L σ) (fun q => q.1.1 = 0 ∧ IO c B KB f0 u0 σ (mu σ (qv nf sq rk)) ((0, 0), q.2.1, (q.2.2.1 + 0, q.2.2.2 + 0))) := by
  have mi := p.1
  have ty := p.2.1
  obtain ⟨st1, st2, st3⟩ := mi.2.1.1
  have ts := TyS_sp ty
  have u1 : uN (1 : Int32) = 1 := rfl
  have u2 : uN (2 : Int32) = 2 := rfl
  have ea : uN (σ.1 1902 - 1) = uN (σ.1 1902) - 1 := by rw [u_sub (by omega), u1]
  have c1 : (σ.1 1902 - 1).toNatClampNeg = uN (σ.1 1902) - 1 := by rw [u_cl (by omega), ea]
  have i1 : ¬ (σ.1 1902 - 1 < 0 ∨ sN σ 20 ≤ (σ.1 1902 - 1).toNatClampNeg) := u_in (by omega) (by omega)
  have kt : K (uN (σ.1 1902) - 1) = none := SL_top _ _ _ ty.1 _ (by omega) (by omega)
  have e2 : uN (L.1 2) = pc := by rw [h2, u_n (by omega)]
  have e21 : uN (L.1 2 + 1) = pc + 1 := by rw [u_inc (by omega), e2]
  have e22 : uN (L.1 2 + 2) = pc + 2 := by rw [u_add (by omega), e2, u2]
  have c21 : (L.1 2 + 1).toNatClampNeg = pc + 1 := by rw [u_cl (by omega)]; exact e21
  generalize hh : σ.2.2.1 20 (uN (σ.1 1902) - 1) = h
  have gh : Gv g h := by rw [← hh]; exact (Ty_v p (by omega) (by omega))
  have ll := lnC_lt (σ.2.2.1 3) h
  have b3 : ∀ L' : LV, Tm (fun k => f_X3_takeFrom k 3 L' σ) (fun q => q.1.1 = 0 ∧ IO c B KB f0 u0 σ (mu σ (qv nf sq rk)) ((0, 0), q.2.1, (q.2.2.1 + 0, q.2.2.2 + 0))) := by
    intro L'
    refine Tm_suc (fun k => by rw [f_X3_takeFrom]) ?_
    refine Tm_op c_fail (fun q e => ?_)
    rw [e]
    refine Tm_some ⟨rfl, ha_fin p rfl (fun j hj => ?_) rfl (f13 (by decide))⟩
    show upd (upd σ.1 1813 _) 1812 1 j = _
    rw [upd_other (by omega), upd_other (by omega)]
  have b6 : ∀ L' : LV, L'.1 2 = L.1 2 → L'.1 3 = h → L'.1 101 = h → L'.1 103 = σ.1 1902 - 1 → (kdC (σ.2.2.1 3) h = 4 ∨ kdC (σ.2.2.1 3) h = 5 ∨ kdC (σ.2.2.1 3) h = 6) → 1 ≤ lnC (σ.2.2.1 3) h → uN (L'.1 100) < lnC (σ.2.2.1 3) h → Tm (fun k => f_X3_takeFrom k 6 L' σ) (fun q => q.1.1 = 0 ∧ IO c B KB f0 u0 σ (mu σ (qv nf sq rk)) ((0, 0), q.2.1, (q.2.2.1 + 0, q.2.2.2 + 0))) := by
    intro L' l2 l3 l101 l103 kk n1 il
    refine Tm_suc (fun k => by rw [f_X3_takeFrom]) ?_
    refine Tm_op (c_taken mi.1 (by show Gv g (L'.1 101); rw [l101]; exact gh) (by
      show (kdC (σ.2.2.1 3) (L'.1 101) = 4 ∧ uN (L'.1 100) < lnC (σ.2.2.1 3) (L'.1 101)) ∨ 5 ≤ kdC (σ.2.2.1 3) (L'.1 101)
      rw [l101]
      rcases kk with z | z | z
      · exact Or.inl ⟨z, il⟩
      · exact Or.inr (by omega)
      · exact Or.inr (by omega))) (fun q z => ?_)
    have e : q.2 = σ := z.1
    rw [e, l103]
    refine Tm_chk i1 ?_
    rw [c1, l2]
    obtain ⟨p1, g1⟩ := Pre_s p kt z.2
    have p2 := Pre_i (j := 1900) p1 (by decide) (L.1 2 + 2)
    refine Tm_op (c_remainder p2.1.1 (by show Gv g (L'.1 3); rw [l3]; exact gh) (by show kdC (σ.2.2.1 3) (L'.1 3) = 4 ∨ kdC (σ.2.2.1 3) (L'.1 3) = 5 ∨ kdC (σ.2.2.1 3) (L'.1 3) = 6; rw [l3]; exact kk) (by show 1 ≤ lnC (σ.2.2.1 3) (L'.1 3); rw [l3]; exact n1)) (fun q3 z3 => ?_)
    obtain ⟨g', l', t', ga, v⟩ := z3
    refine Tm_oxc (giX (Pre_Ga p2 ga) (Md_t (Md_t (Md_A σ (by decide) (uN (σ.1 1902) - 1) q.1) (Md_i _ (by decide) (L.1 2 + 2))) (Md_S (Sm_A ga.2.2.2.2))) (by rw [ga.2.2.2.2.2.2.2]; rfl) (ga.2.2.2.2.1 1905 (by decide)) (ga.2.2.2.2.1 1814 (by decide)) (v.elim id Gv_rw) (by
      rw [ga.2.2.2.2.1 1900 (by decide)]
      show NxS c (uN (L.1 2 + 2)) u (d + 1) r
      rw [e22]; exact nS) (qv nf sq rk)) (fun q4 z4 => z4.1) (fun q4 z4 => ?_)
    exact Tm_some ⟨rfl, z4.2⟩
  have b2 : ∀ L' : LV, L'.1 2 = L.1 2 → L'.1 3 = h → (kdC (σ.2.2.1 3) h = 4 ∨ kdC (σ.2.2.1 3) h = 5 ∨ kdC (σ.2.2.1 3) h = 6) → Tm (fun k => f_X3_takeFrom k 2 L' σ) (fun q => q.1.1 = 0 ∧ IO c B KB f0 u0 σ (mu σ (qv nf sq rk)) ((0, 0), q.2.1, (q.2.2.1 + 0, q.2.2.2 + 0))) := by
    intro L' l2 l3 kk
    refine Tm_suc (fun k => by rw [f_X3_takeFrom]) ?_
    refine Tm_op (c_length mi.1 (by show Gv g (L'.1 3); rw [l3]; exact gh)) (fun q z => ?_)
    rw [z]
    have e0 : (lI lZ 1 (L'.1 3)).1 1 = h := l3
    rw [e0]
    refine Tm_ite (fun z0 => ?_) (fun z0 => ?_)
    · refine Tm_chk i1 ?_
      obtain ⟨p1, g1⟩ := Pre_s p kt (Gv_om g)
      have st' := p1.1.2.1.1
      show Tm (fun k => ox (f_X3_push k 0 (lI lZ 1 (-2147483648)) (uA σ 20 (σ.1 1902 - 1).toNatClampNeg (-2147483648))) (fun r4 => oP (sPr r4.2.1) (fun b5 => if ¬ (L'.1 2 + 1 < 0 ∨ sN r4.2.1 (pR0 (sKd r4.2.1 b5)) ≤ (L'.1 2 + 1).toNatClampNeg) then some ((0, 0), uI r4.2.1 1900 (L'.1 2 + r4.2.1.2.2.1 (pR0 (sKd r4.2.1 b5)) (L'.1 2 + 1).toNatClampNeg), (0, 0)) else none))) _
      rw [c1, l2]
      refine Tm_oxc (c_push st'.1 st'.2.1) (fun q z => by rw [z.1]) (fun q5 z5 => ?_)
      have ct := CtL_M p1.1.2.2.1 (Md_M (Md_S z5.2.2.1))
      have ct2 := ct
      obtain ⟨b, eb, _⟩ := ct2
      have cr := Ct_row ct eb
      refine Tm_oP eb ?_
      refine Tm_chk (u_in (by rw [e21, cr.2.1]; exact hp) (by rw [cr.2.1]; omega)) ?_
      rw [c21, cr.1]
      refine Tm_some ⟨rfl, ?_⟩
      rw [← mu_e g1.2.2.2.1 g1.2.2.2.2.1]
      have zz := pu_fin (q := q5) (rk := rk) (σ' := uI q5.2.1 1900 (L.1 2 + tcC c (pc + 1))) p1 (Gv_om g) z5 rfl (fun j hj => upd_other hj) (by
        show Nx c (uN (L.1 2 + tcC c (pc + 1))) u (d + 1) r rk
        rw [h2]
        exact nE)
      exact IO_g g1 zz
    · have n1 : 1 ≤ lnC (σ.2.2.1 3) h := by
        rcases Nat.eq_zero_or_pos (lnC (σ.2.2.1 3) h) with z | z
        · exact absurd (by show nI (lnC (σ.2.2.1 3) h) = 0; rw [z]; rfl) z0
        · exact z
      refine Tm_suc (fun k => by rw [f_X3_takeFrom]) ?_
      refine Tm_ite (fun _ => ?_) (fun _ => ?_)
      · refine b6 _ l2 l3 l3 rfl kk n1 ?_
        show uN (nI (lnC (σ.2.2.1 3) h) - 1) < _
        rw [u_sub (by rw [u_n (by omega), u1]; exact n1), u_n (by omega), u1]
        omega
      · refine Tm_suc (fun k => by rw [f_X3_takeFrom]) ?_
        exact b6 _ l2 l3 l3 rfl kk n1 n1
  refine Tm_suc (fun k => by rw [f_X3_takeFrom]) ?_
  refine Tm_chk i1 ?_
  rw [c1, hh]
  refine Tm_op (c_kind mi.1 gh) (fun q z => ?_)
  rw [z]
  have e0 : (lI lZ 1 h).1 1 = h := rfl
  rw [e0]
  refine Tm_ite (fun _ => ?_) (fun _ => ?_)
  · refine Tm_ite (fun k6 => ?_) (fun _ => b3 _)
    exact b2 _ rfl rfl (Or.inr (Or.inr (kd_n (n := 6) (by decide) k6)))
  · refine Tm_suc (fun k => by rw [f_X3_takeFrom]) ?_
    refine Tm_ite (fun k5 => ?_) (fun _ => Tm_ite (fun k4 => ?_) (fun _ => b3 _))
    · exact b2 _ rfl rfl (Or.inr (Or.inl (kd_n (n := 5) (by decide) k5)))
    · exact b2 _ rfl rfl (Or.inl (kd_n (n := 4) (by decide) k4))
end CTK
