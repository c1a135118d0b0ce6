/-! The class: iterate. -/
section CTI
variable {g g' g2 : Nat → Prop} {l l' l2 : List Nat} {t t' t2 : Nat} {σ σ' σ2 : CS} {L : LV} {x y i : Int32} {M M' U U' : Nat → Int32} {K K' K2 K2' K3 K4 K4' KB : Nat → Option Int32} {c : Ct} {B f0 u0 : Nat} {fs : List FrT} {u d : Nat} {r r' : List Nat} {pb nf nc sq rk : Nat}
def Ok4 (c : Ct) (pc u d : Nat) (r : List Nat) (rk op n : Nat) : Prop := (op = 64 → ∃ d' r', d = d' + 1 ∧ tcF c u ≤ bt d' r ∧ n + 1 < 180 ∧ Mrl (fun i s => i = bsl + n ∨ i ∈ s) r' r ∧ AllM (fun i => bsl ≤ i → ¬ (i - bsl) % 500000 = n + 1) r' ∧ Nx c (pc + 1) u d' r' rk) ∧ (op = 65 → ∃ r', HasM (bsl + n) r ∧ n + 1 < 180 ∧ AllM (fun i => bsl ≤ i → ¬ (i - bsl) % 500000 = n + 1) r ∧ pc + 1 < tcN c ∧ Mrl (fun i s => i ∈ s) r' r ∧ Nx c (uN (nI pc + tcC c (pc + 1))) u d r' rk ∧ NxS c (pc + 2) u (d + 1) r) ∧ (op = 66 → ∃ d' r1 r', d = d' + 1 ∧ tcF c u ≤ bt d' r ∧ n < 180 ∧ Mrl (fun i s => i ∈ s) r1 r ∧ AllM (fun i => ¬ i = bsl + n) r1 ∧ Mrl (fun i s => i ∈ s ∨ i = bsl + 500000 + n) r' r1 ∧ Nx c (pc + 1) u d' r' rk) ∧ (op = 67 → ∃ d' r1 r', d = d' + 1 ∧ tcF c u ≤ bt d' r ∧ pc + 1 < tcN c ∧ n + uN (tcC c (pc + 1)) ≤ 180 ∧ Mrl (fun i s => i ∈ s) r1 r ∧ AllM (fun i => ¬ (bsl + n ≤ i ∧ i < bsl + n + uN (tcC c (pc + 1)))) r1 ∧ Mrl (fun i s => i ∈ s ∨ (bsl + 500000 + n ≤ i ∧ i < bsl + 500000 + n + uN (tcC c (pc + 1)))) r' r1 ∧ Nx c (pc + 2) u d' r' rk) ∧ (op = 68 → ∃ r', pc + 1 < tcN c ∧ n + uN (tcC c (pc + 1)) ≤ 180 ∧ Mrl (fun i s => i ∈ s) r' r ∧ AllM (fun i => ¬ (bsl + n ≤ i ∧ i < bsl + n + uN (tcC c (pc + 1)))) r' ∧ Nx c (pc + 2) u d r' rk) ∧ (69 ≤ op → tcS c u ∧ SlB r) ∧ (op = 69 → ∃ d' r', d = d' + 1 ∧ tcF c u ≤ bt d' r ∧ n + 1 < bt d' r ∧ tcF c u ≤ n ∧ Mrl (fun i s => i = n ∨ i ∈ s) r' r ∧ AllM (fun i => i < bsl → ¬ i % 500000 = n + 1) r' ∧ SlB r' ∧ Nx c (pc + 1) u d' r' rk) ∧ (op = 70 → ∃ r', HasM n r ∧ n + 1 < bt d r ∧ tcF c u ≤ n ∧ AllM (fun i => i < bsl → ¬ i % 500000 = n + 1) r ∧ pc + 1 < tcN c ∧ Mrl (fun i s => i ∈ s) r' r ∧ Nx c (uN (nI pc + tcC c (pc + 1))) u d r' rk ∧ NxS c (pc + 2) u (d + 1) r) ∧ (op = 71 → ∃ d' r', d = d' + 1 ∧ tcF c u ≤ bt d' r ∧ n < bt d' r ∧ AllM (fun i => ¬ i = n) r ∧ Mrl (fun i s => i ∈ s ∨ i = 500000 + n) r' r ∧ Nx c (pc + 1) u d' r' rk) ∧ (op = 72 → ∃ d' r', d = d' + 1 ∧ tcF c u ≤ bt d' r ∧ pc + 1 < tcN c ∧ n + uN (tcC c (pc + 1)) ≤ bt d' r ∧ AllM (fun i => ¬ (n ≤ i ∧ i < n + uN (tcC c (pc + 1)))) r ∧ Mrl (fun i s => i ∈ s ∨ (500000 + n ≤ i ∧ i < 500000 + n + uN (tcC c (pc + 1)))) r' r ∧ Nx c (pc + 2) u d' r' rk) ∧ (op = 73 → ∃ r', pc + 2 < tcN c ∧ n + 1 < bt d r ∧ tcF c u ≤ n ∧ AllM (fun i => i < bsl → ¬ i % 500000 = n + 1) r ∧ uN (tcC c (pc + 1)) + uN (tcC c (pc + 2)) ≤ bt d r ∧ AllM (fun i => ¬ (uN (tcC c (pc + 1)) ≤ i ∧ i < uN (tcC c (pc + 1)) + uN (tcC c (pc + 2)))) r ∧ Mrl (fun i s => i ∈ s) r' r ∧ Nx c (pc + 3) u d r' rk)
theorem c_iterA (p : Pre c g l t K K2 K3 K4 B KB f0 u0 σ fs u d r pb nf nc sq) {pc op : Nat} (h64 : 64 ≤ op) (h69 : op < 69) (h1 : L.1 1 = nI op) (h3 : L.1 3 = nI pc) (hp : pc + 1 ≤ tcN c) (hN : tcN c ≤ 36864) (hpc : σ.1 1900 = nI (pc + 1)) (hn : uN (L.1 2) < 200) (h13 : σ.1 1813 = 0) (ok : Ok4 c pc u d r rk op (uN (L.1 2))) : Tm (fun k => f_X3_iterate k 0 L σ) (IO c B KB f0 u0 σ (mu σ (qv nf sq rk))) := by
  have mi := p.1
  have ty := p.2.1
  obtain ⟨st1, st2, st3⟩ := mi.2.1.1
  have ts := TyS_sp ty
  have fbb := (FC_b _ _ _ _ _ _ _ ty.2.1).1
  have n20 := ty.2.2.2.1.2
  have epb : uN (σ.1 1811) = pb := ty.2.2.2.2.1
  have e3 : uN (L.1 3) = pc := by rw [h3, u_n (by omega)]
  have epc : uN (nI (pc + 1)) = pc + 1 := u_n (by omega)
  have e31 : uN (L.1 3 + 1) = pc + 1 := by rw [u_inc (by omega), e3]
  have e32 : uN (L.1 3 + 2) = pc + 2 := by rw [u_add (by rw [e3]; show pc + 2 < _; omega), e3]; rfl
  have c31 : (L.1 3 + 1).toNatClampNeg = pc + 1 := by rw [u_cl (by omega)]; exact e31
  have b22 : ∀ (σ' : CS) (L' : LV) (Q : RS → Prop), Q ((0, 0), σ', (0, 0)) → Tm (fun k => f_X3_iterate k 22 L' σ') Q := by
    intro σ' L' Q h
    refine Tm_suc (fun k => by rw [f_X3_iterate]) ?_
    exact Tm_some h
  obtain ⟨b, eb, _⟩ := mi.2.2.1
  have cr := Ct_row mi.2.2.1 eb
  obtain ⟨o64, o65, o66, o67, o68, _⟩ := ok
  have b9 : ∀ L' : LV, L'.1 1 = nI op → L'.1 2 = L.1 2 → L'.1 3 = L.1 3 → L'.1 4 = 0 → L'.1 100 = σ.1 1811 → Tm (fun k => f_X3_iterate k 9 L' σ) (IO c B KB f0 u0 σ (mu σ (qv nf sq rk))) := by
    intro L' l1 l2 l3 l4 l100
    have e6 : uN (L'.1 100 + L'.1 2) = pb + uN (L.1 2) := by rw [l100, l2, u_add (by omega), epb]
    refine Tm_suc (fun k => by rw [f_X3_iterate]) ?_
    rw [l1]
    rcases (by omega : op = 64 ∨ op = 65 ∨ op = 66 ∨ op = 67 ∨ op = 68) with e | e | e | e | e
    · obtain ⟨d', r', k1, k2, k3, k4, k5, k6⟩ := o64 e
      subst e
      subst k1
      refine Tm_yes rfl ?_
      refine Tm_suc (fun k => by rw [f_X3_iterate]) ?_
      refine Tm_op (c_goOver23 (n := uN (L.1 2)) p k2 k3 e6 l4 k4 k5 (by rw [hpc, epc]; exact k6)) (fun q z => ?_)
      exact b22 _ _ _ z
    · obtain ⟨r', k1, k2, k3, k4, k5, k6, k7⟩ := o65 e
      subst e
      refine Tm_no (by decide) (Tm_yes rfl ?_)
      refine Tm_suc (fun k => by rw [f_X3_iterate]) ?_
      refine Tm_oxc (c_nextMember23 (n := uN (L.1 2)) (pc := pc) p e6 (l3.trans h3) l4 k1 k2 k3 k4 hN k5 k6 k7) (fun q z => z.1) (fun q z => ?_)
      exact b22 _ _ _ z.2
    · obtain ⟨d', r1, r', k1, k2, k3, k4, k5, k55, k6⟩ := o66 e
      subst e
      subst k1
      obtain ⟨pd, es⟩ := Pre_dr (x := 1) (d' := d') (n := 1) p rfl rfl k2
      have ps := Pre_sb pd k4 (fun i s q => q)
      have c6 : (L'.1 100 + L'.1 2).toNatClampNeg = pb + uN (L.1 2) := by rw [u_cl (by omega)]; exact e6
      have pq := Pre_23 (x := σ.2.2.1 20 (uN (σ.1 1902) - 1)) (j := pb + uN (L.1 2)) (mk := none) ps ⟨by omega, by omega⟩ (Or.inl ⟨rfl, Ty_v p (q := (uN (σ.1 1902) - 1)) (by omega) (by omega)⟩) (Mrl_rf _ k5) (fun i s q b => q.1) (fun i s q b => by
        by_cases y : pb + (i - bsl) % 500000 = pb + uN (L.1 2)
        · right
          exact ⟨by omega, y, Mkk_n (fun lt => q.2 (by omega))⟩
        · exact Or.inl ⟨q.1, y⟩)
      have pq2 := Pre_av pq.1 k55 (fun i s q b => by
        rcases q with q | q
        · exact Or.inl q
        · exact absurd b (by omega)) (fun i s q b => by
        rcases q with q | q
        · exact Or.inl q
        · right
          have e1 : (i - bsl) % 500000 = uN (L.1 2) := by omega
          rw [e1, Kw_i (Nat.le_refl _) (by omega)]
          exact ⟨by omega, Mkk_n (by omega)⟩)
      refine Tm_no (by decide) (Tm_no (by decide) (Tm_yes rfl ?_))
      refine Tm_suc (fun k => by rw [f_X3_iterate]) ?_
      refine Tm_op (c_pop (by omega) st1 st2.2) (fun q e => ?_)
      rw [e.1]
      refine Tm_chk (u_in (x := L'.1 100 + L'.1 2) (by omega) (by omega)) ?_
      refine b22 _ _ _ ?_
      show IO c B KB f0 u0 σ (mu σ (qv nf sq rk)) ((0, 0), uA (uI σ 1902 (σ.1 1902 - 1)) 23 (L'.1 100 + L'.1 2).toNatClampNeg (σ.2.2.1 20 (uN (σ.1 1902) - 1)), (0, 0))
      rw [c6]
      refine fl_go pq2 (Go_t (Go_dr σ _) pq.2) rfl (fun _ _ => rfl) ?_
      show Nx c (uN (σ.1 1900)) u d' r' rk
      rw [hpc, epc]
      exact k6
    · obtain ⟨d', r1, r', k1, k2, k3, k4, k5, k6, k66, k7⟩ := o67 e
      subst e
      subst k1
      refine Tm_no (by decide) (Tm_no (by decide) (Tm_no (by decide) (Tm_yes rfl ?_)))
      refine Tm_suc (fun k => by rw [f_X3_iterate]) ?_
      refine Tm_oP eb ?_
      have l3' : (lI L' 6 (L'.1 100 + L'.1 2)).1 3 = L.1 3 := l3
      rw [l3']
      refine Tm_chk (u_in (by rw [e31, cr.2.1]; exact k3) (by rw [cr.2.1]; omega)) ?_
      rw [c31, cr.1]
      refine Tm_op (c_spread23 (n := uN (L.1 2)) (m := uN (tcC c (pc + 1))) p k2 k4 e6 rfl l4 h13 k5 k6) (fun q z => ?_)
      exact b22 _ _ _ (SpO_io (v := L.1 3 + 2) k4 z k66 (by rw [e32]; exact k7))
    · obtain ⟨r', k3, k4, k5, k6, k7⟩ := o68 e
      subst e
      have ps := Pre_sb p k5 (fun i s q => q)
      have lp : ∀ (k : Nat) (L2 : LV) (τ : CS) (K4' : Nat → Option Int32), Pre c g l t K K2 K3 K4' B KB f0 u0 τ fs u d r' pb nf nc sq → Go c u0 σ τ → uN (L2.1 7) = k → k ≤ uN (tcC c (pc + 1)) → L2.1 3 = L.1 3 → uN (L2.1 6) = pb + uN (L.1 2) → Tm (fun k => f_X3_iterate k 24 L2 τ) (IO c B KB f0 u0 σ (mu σ (qv nf sq rk))) := by
        intro k
        induction k with
        | zero =>
          intro L2 τ K4' pt gt m7 mk m3 m6
          refine Tm_suc (fun k => by rw [f_X3_iterate]) ?_
          refine Tm_yes (by rw [u_le (by omega) (by decide)]; show uN (L2.1 7) ≤ 0; omega) ?_
          refine Tm_suc (fun k => by rw [f_X3_iterate]) ?_
          rw [m3]
          refine b22 _ _ _ (fl_go (σ' := uI τ 1900 (L.1 3 + 2)) pt gt rfl (fun j hj => upd_other hj) ?_)
          show Nx c (uN (L.1 3 + 2)) u d r' rk
          rw [e32]
          exact k7
        | succ k ih =>
          intro L2 τ K4' pt gt m7 mk m3 m6
          have ei : uN (L2.1 6 + L2.1 7 - 1) = pb + uN (L.1 2) + k := by
            rw [u_sub (by rw [u_add (by omega)]; show 1 ≤ _; omega), u_add (by omega)]
            show _ - 1 = _
            omega
          have ci : (L2.1 6 + L2.1 7 - 1).toNatClampNeg = pb + uN (L.1 2) + k := by rw [u_cl (by omega)]; exact ei
          have pq := Pre_23 (x := -2147483648) (j := pb + uN (L.1 2) + k) (mk := none) pt ⟨by omega, by omega⟩ (Or.inl ⟨rfl, Gv_om g⟩) (Mrl_rf _ k6) (fun i s q b => q.1) (fun i s q b => by
            by_cases y : pb + (i - bsl) % 500000 = pb + uN (L.1 2) + k
            · right
              exact ⟨by omega, y, Mkk_n (fun lt => q.2 (by omega))⟩
            · exact Or.inl ⟨q.1, y⟩)
          refine Tm_suc (fun k => by rw [f_X3_iterate]) ?_
          refine Tm_no (by rw [u_le (by omega) (by decide)]; show ¬ uN (L2.1 7) ≤ 0; omega) ?_
          refine Tm_chk (u_in (by omega) (by omega)) ?_
          rw [ci]
          refine ih _ _ _ pq.1 (Go_t gt pq.2) ?_ (by omega) m3 m6
          show uN (L2.1 7 + (-1)) = k
          rw [u_dec (by omega)]
          omega
      refine Tm_no (by decide) (Tm_no (by decide) (Tm_no (by decide) (Tm_no (by decide) (Tm_yes rfl ?_))))
      refine Tm_suc (fun k => by rw [f_X3_iterate]) ?_
      refine Tm_oP eb ?_
      have l3' : (lI L' 6 (L'.1 100 + L'.1 2)).1 3 = L.1 3 := l3
      rw [l3']
      refine Tm_chk (u_in (by rw [e31, cr.2.1]; exact k3) (by rw [cr.2.1]; omega)) ?_
      rw [c31, cr.1]
      exact lp _ _ σ K4 ps (Go_r σ) rfl (Nat.le_refl _) l3 e6
  refine Tm_suc (fun k => by rw [f_X3_iterate]) ?_
  refine Tm_yes (by rw [h1, u_ltn (by rw [u_n (by omega)]; omega) (by decide), u_n (by omega)]; exact h69) ?_
  refine Tm_suc (fun k => by rw [f_X3_iterate]) ?_
  refine Tm_suc (fun k => by rw [f_X3_iterate]) ?_
  refine Tm_yes rfl ?_
  refine Tm_suc (fun k => by rw [f_X3_iterate]) ?_
  refine Tm_suc (fun k => by rw [f_X3_iterate]) ?_
  refine Tm_yes rfl ?_
  refine Tm_suc (fun k => by rw [f_X3_iterate]) ?_
  exact b9 _ h1 rfl rfl rfl rfl
end CTI
