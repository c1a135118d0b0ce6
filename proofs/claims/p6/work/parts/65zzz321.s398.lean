/-! The class: iterate (fors). -/
section CTJ
variable {g g' g2 : Nat → Prop} {l l' l2 : List Nat} {t t' t2 : Nat} {σ σ' σ2 : CS} {L : LV} {x y i : Int32} {M M' U U' : Nat → Int32} {K K' K2 K2' K3 K4 K4' KB : Nat → Option Int32} {c : Ct} {B f0 u0 : Nat} {fs : List FrT} {u d : Nat} {r r' : List Nat} {pb nf nc sq rk : Nat}
theorem c_iterB (p : Pre c g l t K K2 K3 K4 B KB f0 u0 σ fs u d r pb nf nc sq) {pc op : Nat} (h69 : 69 ≤ op) (h73 : op ≤ 73) (h1 : L.1 1 = nI op) (h3 : L.1 3 = nI pc) (hp : pc + 1 ≤ tcN c) (hN : tcN c ≤ 36864) (hpc : σ.1 1900 = nI (pc + 1)) (hn : uN (L.1 2) < 200) (h13 : σ.1 1813 = 0) (ok : Ok4 c pc u d r rk op (uN (L.1 2))) : Tm (fun k => f_X3_iterate k 0 L σ) (IO c B KB f0 u0 σ (mu σ (qv nf sq rk))) := by
  have mi := p.1
  have ty := p.2.1
  obtain ⟨st1, st2, st3⟩ := mi.2.1.1
  have ts := TyS_sp ty
  have e3 : uN (L.1 3) = pc := by rw [h3, u_n (by omega)]
  have epc : uN (nI (pc + 1)) = pc + 1 := u_n (by omega)
  have e31 : uN (L.1 3 + 1) = pc + 1 := by rw [u_inc (by omega), e3]
  have e32 : uN (L.1 3 + 2) = pc + 2 := by rw [u_add (by rw [e3]; show pc + 2 < _; omega), e3]; rfl
  have e33 : uN (L.1 3 + 3) = pc + 3 := by rw [u_add (by rw [e3]; show pc + 3 < _; omega), e3]; rfl
  have c31 : (L.1 3 + 1).toNatClampNeg = pc + 1 := by rw [u_cl (by omega)]; exact e31
  have c32 : (L.1 3 + 2).toNatClampNeg = pc + 2 := by rw [u_cl (by omega)]; exact e32
  have b22 : ∀ (σ' : CS) (L' : LV) (Q : RS → Prop), Q ((0, 0), σ', (0, 0)) → Tm (fun k => f_X3_iterate k 22 L' σ') Q := by
    intro σ' L' Q h
    refine Tm_suc (fun k => by rw [f_X3_iterate]) ?_
    exact Tm_some h
  obtain ⟨b, eb, _⟩ := mi.2.2.1
  have cr := Ct_row mi.2.2.1 eb
  obtain ⟨-, -, -, -, -, o, o69, o70, o71, o72, o73⟩ := ok
  obtain ⟨cu, sb⟩ := o h69
  have cs : tcS c u0 := FC_S _ _ _ _ _ _ _ ty.2.1 cu
  have e14 : uN (σ.1 1901 + 4) = uN (σ.1 1901) + 4 := by rw [u_add (by show uN (σ.1 1901) + 4 < _; omega)]; rfl
  have b7 : ∀ L' : LV, L'.1 1 = nI op → L'.1 2 = L.1 2 → L'.1 3 = L.1 3 → L'.1 4 = 1 → L'.1 100 = σ.1 1901 + 4 → Tm (fun k => f_X3_iterate k 7 L' σ) (IO c B KB f0 u0 σ (mu σ (qv nf sq rk))) := by
    intro L' l1 l2 l3 l4 l100
    have e6 : uN (L'.1 100 + L'.1 2) = uN (σ.1 1901) + 4 + uN (L.1 2) := by rw [l100, l2, u_add (by omega), e14]
    have l3' : (lI L' 6 (L'.1 100 + L'.1 2)).1 3 = L.1 3 := l3
    refine Tm_suc (fun k => by rw [f_X3_iterate]) ?_
    rw [l1]
    rcases (by omega : op = 69 ∨ op = 70 ∨ op = 71 ∨ op = 72 ∨ op = 73) with e | e | e | e | e
    · obtain ⟨d', r', k1, k2, k3, k4, k5, k6, k7, k8⟩ := o69 e
      subst e
      subst k1
      refine Tm_no (by decide) (Tm_no (by decide) (Tm_no (by decide) (Tm_no (by decide) (Tm_no (by decide) (Tm_yes rfl ?_)))))
      refine Tm_suc (fun k => by rw [f_X3_iterate]) ?_
      refine Tm_op (c_goOver20 (n := uN (L.1 2)) p cs k2 k3 sb k4 e6 k5 k6 k7 (by rw [hpc, epc]; exact k8)) (fun q z => ?_)
      exact b22 _ _ _ z
    · obtain ⟨r', k1, k2, k3, k4, k5, k6, k7, k8⟩ := o70 e
      subst e
      refine Tm_no (by decide) (Tm_no (by decide) (Tm_no (by decide) (Tm_no (by decide) (Tm_no (by decide) (Tm_no (by decide) (Tm_yes rfl ?_))))))
      refine Tm_suc (fun k => by rw [f_X3_iterate]) ?_
      refine Tm_oxc (c_nextMember20 (n := uN (L.1 2)) (pc := pc) p cs e6 (l3.trans h3) k1 k2 sb k3 k4 k5 hN k6 k7 k8) (fun q z => z.1) (fun q z => ?_)
      exact b22 _ _ _ z.2
    · obtain ⟨d', r', k1, k2, k3, k4, k45, k5⟩ := o71 e
      subst e
      subst k1
      obtain ⟨pd, es⟩ := Pre_dr (x := 1) (d' := d') (n := 1) p rfl rfl k2
      refine Tm_no (by decide) (Tm_no (by decide) (Tm_no (by decide) (Tm_no (by decide) (Tm_no (by decide) (Tm_no (by decide) (Tm_no (by decide) (Tm_yes rfl ?_)))))))
      refine Tm_suc (fun k => by rw [f_X3_iterate]) ?_
      refine Tm_op (c_pop (by omega) st1 st2.2) (fun q e => ?_)
      rw [e.1]
      refine Tm_op (c_assign (j := uN (σ.1 1901) + 4 + uN (L.1 2)) pd cs e6 ((Ty_v p (q := (uN (σ.1 1902) - 1)) (by omega) (by omega))) (WP_sl k3 sb k4)) (fun q z => ?_)
      obtain ⟨⟨σ1, K1, z1, z2, z3⟩, zf, _⟩ := z
      refine b22 _ _ _ (SpK_0 (P := fun K' => K' = Kw K (uN (σ.1 1901) + 4 + uN (L.1 2)) 1 none ∧ q.2.1 1813 = (uI σ 1902 (σ.1 1902 - 1)).1 1813) (r' := r') ⟨σ1, K1, z1, Go_t (Go_dr σ _) z2, z3⟩ (fun σ2 K2' ef pp hk => ?_) zf (by rw [hpc, epc]; exact k5))
      refine Pre_av pp k45 (fun i s q b => ?_) (fun i s q b => ?_)
      · rcases q with q | q
        · exact Or.inl q
        · right
          have e1 : i % 500000 = uN (L.1 2) := by omega
          rw [e1, hk.1, ef, Kw_i (Nat.le_refl _) (by omega)]
          exact ⟨k3, Mkk_n (by omega)⟩
      · rcases q with q | q
        · exact Or.inl q
        · exact absurd b (by unfold bsl; omega)
    · obtain ⟨d', r', k1, k2, k3, k4, k5, k55, k6⟩ := o72 e
      subst e
      subst k1
      refine Tm_no (by decide) (Tm_no (by decide) (Tm_no (by decide) (Tm_no (by decide) (Tm_no (by decide) (Tm_no (by decide) (Tm_no (by decide) (Tm_no (by decide) (Tm_yes rfl ?_))))))))
      refine Tm_suc (fun k => by rw [f_X3_iterate]) ?_
      refine Tm_oP eb ?_
      rw [l3']
      refine Tm_chk (u_in (by rw [e31, cr.2.1]; exact k3) (by rw [cr.2.1]; omega)) ?_
      rw [c31, cr.1]
      refine Tm_op (c_spread20 (n := uN (L.1 2)) (m := uN (tcC c (pc + 1))) p cs k2 k4 sb e6 rfl (by show ¬ L'.1 4 = 0; rw [l4]; decide) h13 k5) (fun q z => ?_)
      have bm := bt_m d' 1 r
      refine b22 _ _ _ (SpK_io (v := L.1 3 + 2) (r' := r') z.1 (fun σ2 K2' ef pp hk => ?_) z.2 (by rw [e32]; exact k6))
      refine Pre_av pp k55 (fun i s q b => ?_) (fun i s q b => ?_)
      · rcases q with q | q
        · exact Or.inl q
        · right
          have h0 := hk (i - 500000 - uN (L.1 2)) (by omega)
          have e1 : i % 500000 = i - 500000 := by unfold bsl at b; omega
          rw [e1, ef, show uN (σ.1 1901) + 4 + (i - 500000) = uN (σ.1 1901) + 4 + uN (L.1 2) + (i - 500000 - uN (L.1 2)) by omega, h0]
          exact ⟨by omega, Mkk_n (by omega)⟩
      · rcases q with q | q
        · exact Or.inl q
        · exact absurd b (by unfold bsl; omega)
    · obtain ⟨r', k1, k2, k3, k4, k5, k6, k7, k8⟩ := o73 e
      subst e
      refine Tm_no (by decide) (Tm_no (by decide) (Tm_no (by decide) (Tm_no (by decide) (Tm_no (by decide) (Tm_no (by decide) (Tm_no (by decide) (Tm_no (by decide) (Tm_no (by decide) ?_))))))))
      refine Tm_suc (fun k => by rw [f_X3_iterate]) ?_
      refine Tm_oP eb ?_
      rw [l3']
      refine Tm_chk (u_in (by rw [e31, cr.2.1]; omega) (by rw [cr.2.1]; omega)) ?_
      refine Tm_oP eb ?_
      refine Tm_chk (u_in (by rw [e32, cr.2.1]; exact k1) (by rw [cr.2.1]; omega)) ?_
      rw [c31, c32, cr.1]
      refine Tm_op (c_clearFor (n := uN (L.1 2)) (n2 := uN (tcC c (pc + 1))) (m := uN (tcC c (pc + 2))) p cs k2 sb k3 e6 k4 (by show uN (σ.1 1901 + 4 + tcC c (pc + 1)) = _; rw [u_add (by omega), e14]) rfl k5 k6) (fun q z => ?_)
      obtain ⟨K1, z1, z2, z3⟩ := z
      refine b22 _ _ _ (fl_go (σ' := uI q.2 1900 (L.1 3 + 3)) (Pre_sb z1 k7 (fun i s q => q)) z2 rfl (fun j hj => upd_other hj) ?_)
      show Nx c (uN (L.1 3 + 3)) u d r' rk
      rw [e33]
      exact k8
  refine Tm_suc (fun k => by rw [f_X3_iterate]) ?_
  refine Tm_no (by rw [h1, u_ltn (by rw [u_n (by omega)]; omega) (by decide), u_n (by omega)]; show ¬ op < 69; omega) ?_
  refine Tm_suc (fun k => by rw [f_X3_iterate]) ?_
  refine Tm_no (by show ¬ (1 : Int32) = 0; decide) ?_
  refine Tm_suc (fun k => by rw [f_X3_iterate]) ?_
  refine Tm_no (by show ¬ (1 : Int32) = 0; decide) ?_
  exact b7 _ h1 rfl rfl rfl rfl
theorem c_iterate (p : Pre c g l t K K2 K3 K4 B KB f0 u0 σ fs u d r pb nf nc sq) {pc op : Nat} (h64 : 64 ≤ op) (h73 : op ≤ 73) (h1 : L.1 1 = nI op) (h3 : L.1 3 = nI pc) (hp : pc + 1 ≤ tcN c) (hN : tcN c ≤ 36864) (hpc : σ.1 1900 = nI (pc + 1)) (hn : uN (L.1 2) < 200) (h13 : σ.1 1813 = 0) (ok : Ok4 c pc u d r rk op (uN (L.1 2))) : Tm (fun k => f_X3_iterate k 0 L σ) (IO c B KB f0 u0 σ (mu σ (qv nf sq rk))) := by
  by_cases e : op < 69
  · exact c_iterA p h64 e h1 h3 hp hN hpc hn h13 ok
  · exact c_iterB p (by omega) h73 h1 h3 hp hN hpc hn h13 ok
end CTJ
