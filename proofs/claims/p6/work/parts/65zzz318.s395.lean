/-! The class: the next member, names, clearing (fors). -/
section CTG
variable {g g' g2 : Nat → Prop} {l l' l2 : List Nat} {t t' t2 : Nat} {σ σ' σ2 : CS} {L : LV} {x y i : Int32} {M M' U U' : Nat → Int32} {K K' K2 K2' K3 K4 K4' KB : Nat → Option Int32} {c : Ct} {B f0 u0 : Nat} {fs : List FrT} {u d : Nat} {r r' : List Nat} {pb nf nc sq rk : Nat}
theorem c_nextMember20 (p : Pre c g l t K K2 K3 K4 B KB f0 u0 σ fs u d r pb nf nc sq) (cs : tcS c u0) {pc n : Nat} (h2 : uN (L.1 2) = uN (σ.1 1901) + 4 + n) (h3 : L.1 3 = nI pc) (hm : HasM n r) (hn : n + 1 < bt d r) (sb : SlB r) (hf : tcF c u ≤ n) (ha : AllM (fun i => i < bsl → ¬ i % 500000 = n + 1) r) (hp : pc + 1 < tcN c) (hN : tcN c ≤ 36864) (hr : Mrl (fun i s => i ∈ s) r' r) (nE : Nx c (uN (nI pc + tcC c (pc + 1))) u d r' rk) (nS : NxS c (pc + 2) u (d + 1) r) : Tm (fun k => f_X3_nextMember__z20 k 0 L σ) (fun q => q.1.1 = 0 ∧ IO c B KB f0 u0 σ (mu σ (qv nf sq rk)) ((0, 0), q.2.1, (q.2.2.1 + 0, q.2.2.2 + 0))) := by
  have mi := p.1
  have ty := p.2.1
  obtain ⟨st1, st2, st3⟩ := mi.2.1.1
  have ts := TyS_sp ty
  have nb : n < bsl := by unfold bsl; omega
  have mk := SL_has (show n < 500000 by omega) r _ _ ty.1 hm
  have e21 : uN (L.1 2 + 1) = uN (σ.1 1901) + 4 + (n + 1) := by rw [u_inc (by omega), h2]; omega
  have c2 : (L.1 2).toNatClampNeg = uN (σ.1 1901) + 4 + n := by rw [u_cl (by omega)]; exact h2
  have c21 : (L.1 2 + 1).toNatClampNeg = uN (σ.1 1901) + 4 + (n + 1) := by rw [u_cl (by omega)]; exact e21
  have gr := Rwk_v st3 (j := uN (σ.1 1901) + 4 + n) (by omega) (Or.inr mk.2)
  have nw : NoW (σ.2.2.1 3) (σ.2.2.1 20 (uN (σ.1 1901) + 4 + n)) := by
    rcases (st3 (uN (σ.1 1901) + 4 + n) (by omega)).2.2 _ mk.2 with z | z
    · exact absurd rfl (mk_nr z.2)
    · exact (mk_w z).2
  have ll := lnC_lt (σ.2.2.1 3) (σ.2.2.1 20 (uN (σ.1 1901) + 4 + n))
  have e3 : uN (L.1 3) = pc := by rw [h3, u_n (by omega)]
  have u2 : uN (2 : Int32) = 2 := rfl
  refine Tm_suc (fun k => by rw [f_X3_nextMember__z20]) ?_
  refine Tm_chk (u_in (x := L.1 2) (by omega) (by omega)) ?_
  refine Tm_chk (u_in (x := L.1 2 + 1) (by omega) (by omega)) ?_
  refine Tm_op c_unraw (fun q1 z1 => ?_)
  rw [z1]
  refine Tm_op (c_length mi.1 (by show Gv g (σ.2.2.1 20 (L.1 2).toNatClampNeg); rw [c2]; exact gr)) (fun q2 z2 => ?_)
  rw [z2]
  generalize hx : nI (uN ((lI lZ 0 (σ.2.2.1 20 (L.1 2 + 1).toNatClampNeg)).1 0) % 268435456) = nx
  have xl : uN nx < 268435456 := by rw [← hx, u_n (by omega)]; omega
  have el : (lI lZ 1 (σ.2.2.1 20 (L.1 2).toNatClampNeg)).1 1 = σ.2.2.1 20 (uN (σ.1 1901) + 4 + n) := by rw [← c2]; rfl
  rw [el]
  refine Tm_ite (fun cl => ?_) (fun _ => ?_)
  · have cl' : nx < nI (lnC (σ.2.2.1 3) (σ.2.2.1 20 (uN (σ.1 1901) + 4 + n))) := cl
    rw [u_ltn (by omega) (by rw [u_n (by omega)]; omega), u_n (by omega)] at cl'
    refine Tm_suc (fun k => by rw [f_X3_nextMember__z20]) ?_
    refine Tm_op c_raw (fun q3 z3 => ?_)
    rw [z3]
    refine Tm_chk (u_in (x := L.1 2 + 1) (by show uN (L.1 2 + 1) < sN σ 20; omega) (by show sN σ 20 ≤ _; omega)) ?_
    generalize hv : rwN (uN ((lI lZ 0 ((lI (lI L 5 (σ.2.2.1 20 (L.1 2).toNatClampNeg)) 6 nx).1 6 + 1)).1 0) % 268435456) = rv
    have rvr : Rr rv := by rw [← hv]; exact rwN_r (by omega)
    have p1 := Pre_20 (x := rv) (n := n + 1) (mk := some mkC) p hn sb (Or.inr (Or.inr ⟨rfl, Gw_rr rvr, by omega⟩)) (Mrl_rf _ ha) (fun i s q b => Or.inl ⟨q.1, q.2 b⟩) (fun i s q b => q.1)
    show Tm (fun k => Jvm.Pilot.CSetHouseLaw_law_r7351_1de140.op (y_X1_taken k 0 (lI (lI lZ 1 (σ.2.2.1 20 (L.1 2).toNatClampNeg)) 2 nx) (uA σ 20 (L.1 2 + 1).toNatClampNeg rv)) (fun r3 => ox (f_X3_push k 0 (lI lZ 1 r3.1) r3.2) (fun r4 => f_X3_nextMember__z20 k 2 (lI (lI L 5 (σ.2.2.1 20 (L.1 2).toNatClampNeg)) 6 nx) (uI r4.2.1 1900 (L.1 3 + 2))))) _
    rw [c2, c21]
    obtain ⟨-, p1, g1⟩ := p1
    generalize hτ : uA σ 20 (uN (σ.1 1901) + 4 + (n + 1)) rv = τ at *
    have τ3 : τ.2.2.1 3 = σ.2.2.1 3 := by rw [← hτ]; rfl
    refine Tm_op (c_taken p1.1.1 gr ?_) (fun q4 z4 => ?_)
    · show (kdC (τ.2.2.1 3) (σ.2.2.1 20 (uN (σ.1 1901) + 4 + n)) = 4 ∧ uN nx < lnC (τ.2.2.1 3) (σ.2.2.1 20 (uN (σ.1 1901) + 4 + n))) ∨ 5 ≤ kdC (τ.2.2.1 3) (σ.2.2.1 20 (uN (σ.1 1901) + 4 + n))
      rw [τ3]
      generalize σ.2.2.1 20 (uN (σ.1 1901) + 4 + n) = h at *
      by_cases lt : uN h < 2147483648
      · have cg := (HQ_c mi.1 (Gv_c gr lt).2).2.2.2.2.2.2.1
        have n2 := nw lt
        unfold kdC
        rw [if_pos lt]
        rcases cg with e | e | e | e
        · exact absurd e n2
        · exact Or.inl ⟨e, cl'⟩
        · exact Or.inr (by omega)
        · exact Or.inr (by omega)
      · unfold lnC at cl' ⊢
        unfold kdC
        rw [if_neg lt] at cl' ⊢
        rw [if_neg lt]
        by_cases e12 : uN h / 268435456 = 12
        · rw [if_pos e12] at cl' ⊢
          exact Or.inl ⟨by omega, cl'⟩
        · rw [if_neg e12] at cl'
          omega
    · have e4 : q4.2 = τ := z4.1
      rw [e4]
      have st' := p1.1.2.1.1
      refine Tm_oxc (c_push st'.1 st'.2.1) (fun q z => by rw [z.1]) (fun q5 z5 => ?_)
      refine Tm_suc (fun k => by rw [f_X3_nextMember__z20]) ?_
      refine Tm_op c_spend (fun q6 e6 => ?_)
      rw [e6]
      refine Tm_some ⟨rfl, ?_⟩
      rw [← mu_e g1.2.2.2.1 g1.2.2.2.2.1]
      refine IO_g g1 (pu_sp (v := L.1 3 + 2) p1 z4.2 z5 ?_ _)
      rw [u_add (by omega), e3, u2]
      exact nS
  · refine Tm_op (c_letGo20 p cs hn sb hf h2 ha) (fun q3 z3 => ?_)
    obtain ⟨K', pl, gl, fl⟩ := z3
    obtain ⟨b, eb, _⟩ := pl.1.2.2.1
    have cr := Ct_row pl.1.2.2.1 eb
    have e31 : uN (L.1 3 + 1) = pc + 1 := by rw [u_inc (by omega), e3]
    refine Tm_oP eb ?_
    refine Tm_chk (u_in (by rw [e31, cr.2.1]; exact hp) (by rw [cr.2.1]; omega)) ?_
    rw [u_cl (by omega), e31, cr.1]
    refine Tm_some ⟨rfl, ?_⟩
    have ps := Pre_sb pl hr (fun i s q => q)
    refine fl_go (σ' := uI q3.2 1900 (L.1 3 + tcC c (pc + 1))) ps gl rfl (fun j hj => upd_other hj) ?_
    show Nx c (uN (L.1 3 + tcC c (pc + 1))) u d r' rk
    rw [h3]
    exact nE
theorem AllM_i {P P' : Nat → Prop} (h : ∀ i, P i → P' i) : ∀ r : List Nat, AllM P r → AllM P' r
  | [], _ => trivial
  | e :: r, q => ⟨fun c i hi => h i (q.1 c i hi), fun c => AllM_i h r (q.2 c)⟩
theorem c_spread20 (p : Pre c g l t K K2 K3 K4 B KB f0 u0 σ fs u (d + 1) r pb nf nc sq) (cs : tcS c u0) (fb : tcF c u ≤ bt d r) {n m : Nat} (hn : n + m ≤ bt d r) (sb : SlB r) (h2 : uN (L.1 2) = uN (σ.1 1901) + 4 + n) (h3 : uN (L.1 3) = m) (h4 : ¬ L.1 4 = 0) (h13 : σ.1 1813 = 0) (ha : AllM (fun i => ¬ (n ≤ i ∧ i < n + m)) r) : Tm (fun k => y_X3_spread__z20 k 0 L σ) (fun q => SpK (fun K' => ∀ k, k < m → K' (uN (σ.1 1901) + 4 + n + k) = none) c g l t K2 K3 K4 B KB f0 u0 fs u d r pb nf nc sq σ q.2 ∧ q.2.1 1901 = σ.1 1901) := by
  have mi := p.1
  have ty := p.2.1
  obtain ⟨st1, st2, st3⟩ := mi.2.1.1
  have ts := TyS_sp ty
  have gh := (Ty_v p (q := (uN (σ.1 1902) - 1)) (by omega) (by omega))
  obtain ⟨pd, es⟩ := Pre_dr (x := 1) (d' := d) (n := 1) p rfl rfl fb
  have td := TyS_sp pd.2.1
  have es' : uN ((uI σ 1902 (σ.1 1902 - 1)).1 1902) = uN (σ.1 1902) - 1 := es
  have f1' : uN ((uI σ 1902 (σ.1 1902 - 1)).1 1901) = uN (σ.1 1901) := rfl
  have b1 : ∀ L' : LV, Tm (fun k => y_X3_spread__z20 k 1 L' (uI σ 1902 (σ.1 1902 - 1))) (fun q => SpK (fun K' => ∀ k, k < m → K' (uN (σ.1 1901) + 4 + n + k) = none) c g l t K2 K3 K4 B KB f0 u0 fs u d r pb nf nc sq σ q.2 ∧ q.2.1 1901 = σ.1 1901) := by
    intro L'
    refine Tm_suc (fun k => by rw [y_X3_spread__z20]) ?_
    refine Tm_oc c_fail (fun q2 e2 => ?_)
    rw [e2]
    refine Tm_some ⟨⟨_, K, pd, Go_dr σ _, Or.inr ⟨rfl, fun j hj => ?_, rfl, by show ¬ (1 : Int32) = 0; decide⟩⟩, rfl⟩
    show upd (upd (upd σ.1 1902 _) 1813 _) 1812 1 j = upd σ.1 1902 _ j
    rw [upd_other (by omega), upd_other (by omega)]
  have b4 : ∀ (L' : LV) (τ : CS), SpK (fun K' => ∀ k, k < m → K' (uN (σ.1 1901) + 4 + n + k) = none) c g l t K2 K3 K4 B KB f0 u0 fs u d r pb nf nc sq σ τ → τ.1 1901 = σ.1 1901 → Tm (fun k => y_X3_spread__z20 k 4 L' τ) (fun q => SpK (fun K' => ∀ k, k < m → K' (uN (σ.1 1901) + 4 + n + k) = none) c g l t K2 K3 K4 B KB f0 u0 fs u d r pb nf nc sq σ q.2 ∧ q.2.1 1901 = σ.1 1901) := by
    intro L' τ pt f1
    refine Tm_suc (fun k => by rw [y_X3_spread__z20]) ?_
    exact Tm_some ⟨pt, f1⟩
  have b3 : kdC (σ.2.2.1 3) (σ.2.2.1 20 (uN (σ.1 1902) - 1)) = 5 → ∀ (k : Nat) (L' : LV) (τ : CS), SpK (fun K' => (∀ k, k < uN (L'.1 6) → K' (uN (σ.1 1901) + 4 + n + k) = none) ∧ τ.1 1813 = 0) c g l t K2 K3 K4 B KB f0 u0 fs u d r pb nf nc sq σ τ → τ.1 1901 = σ.1 1901 → τ.2.2.1 3 = σ.2.2.1 3 → uN (L'.1 6) + k = m → L'.1 2 = L.1 2 → L'.1 3 = L.1 3 → ¬ L'.1 4 = 0 → L'.1 5 = σ.2.2.1 20 (uN (σ.1 1902) - 1) → Tm (fun k => y_X3_spread__z20 k 3 L' τ) (fun q => SpK (fun K' => ∀ k, k < m → K' (uN (σ.1 1901) + 4 + n + k) = none) c g l t K2 K3 K4 B KB f0 u0 fs u d r pb nf nc sq σ q.2 ∧ q.2.1 1901 = σ.1 1901) := by
    intro k5 k
    induction k with
    | zero =>
      intro L' τ pt f1 t3 l6 l2 l3 l4 l5
      refine Tm_suc (fun k => by rw [y_X3_spread__z20]) ?_
      exact Tm_yes (by rw [l3, u_le (by omega) (by omega)]; omega) (b4 _ _ (by
        obtain ⟨σ1, K1, pp, gg, hh⟩ := pt
        exact ⟨σ1, K1, pp, gg, hh.imp (fun z => ⟨z.1, fun k hk => z.2.1 k (by omega)⟩) id⟩) f1)
    | succ k ih =>
      intro L' τ pt f1 t3 l6 l2 l3 l4 l5
      have f1u : uN (τ.1 1901) = uN (σ.1 1901) := by rw [f1]
      have ea : uN (L'.1 2 + L'.1 6) = uN (τ.1 1901) + 4 + (n + uN (L'.1 6)) := by rw [l2, u_add (by omega), h2, f1u]; omega
      refine Tm_suc (fun k => by rw [y_X3_spread__z20]) ?_
      refine Tm_no (by rw [l3, u_le (by omega) (by omega)]; omega) ?_
      refine Tm_ite (fun c13 => ?_) (fun c13 => b4 _ _ (by
        obtain ⟨σ1, K1, pp, gg, hh⟩ := pt
        exact ⟨σ1, K1, pp, gg, hh.imp (fun z => absurd z.2.2 c13) id⟩) f1)
      refine Tm_no l4 ?_
      obtain ⟨σ1, K1, pp, gg, hh⟩ := pt
      rcases hh with ⟨e, hk, _⟩ | ⟨_, _, _, ne⟩
      · subst e
        have sq5 : Sq5 g τ (L'.1 5) := by
          refine Sq5_k (by rw [l5]; exact gh) ?_
          rw [t3, l5]; omega
        refine Tm_ocE (c_member pp.1.1 sq5.1 sq5.2) ?_
        refine Tm_oc (c_assign pp cs ea (mbC_g pp.1.1 sq5.1 sq5.2) (WP_sl (by omega) sb (AllM_i (fun i hi e => hi (by omega)) r ha))) (fun q z => ?_)
        obtain ⟨⟨σ2, K2', z1, z2, z3⟩, z4, z5⟩ := z
        refine Tm_suc (fun k => by rw [y_X3_spread__z20]) ?_
        refine ih _ _ ⟨σ2, K2', z1, Go_t gg z2, ?_⟩ (z4.trans f1) (z5.trans t3) ?_ l2 l3 l4 l5
        · rcases z3 with ⟨y1, y2, y3⟩ | y
          · left
            refine ⟨y1, fun k hk' => ?_, ?_⟩
            · have hk2 : k < uN (L'.1 6 + 1) := hk'
              rw [u_inc (by omega)] at hk2
              rw [y2]
              by_cases y : k = uN (L'.1 6)
              · exact Kw_i (by omega) (by omega)
              · rw [Kw_o (by omega)]; exact hk k (by omega)
            · show q.2.1 1813 = 0
              rw [y3]
              exact c13
          · exact Or.inr y
        · show uN (L'.1 6 + 1) + k = m
          rw [u_inc (by omega)]; omega
      · exact absurd c13 ne
  refine Tm_suc (fun k => by rw [y_X3_spread__z20]) ?_
  refine Tm_oc (c_pop (by omega) st1 st2.2) (fun q e => ?_)
  rw [e.1]
  refine Tm_ocE (c_kind pd.1.1 gh) ?_
  refine Tm_ite (fun c5 => ?_) (fun _ => b1 _)
  have k5 : kdC (σ.2.2.1 3) (σ.2.2.1 20 (uN (σ.1 1902) - 1)) = 5 := kd_n (n := 5) (by decide) c5
  refine Tm_ocE (c_length pd.1.1 gh) ?_
  refine Tm_ite (fun _ => ?_) (fun _ => b1 _)
  refine Tm_suc (fun k => by rw [y_X3_spread__z20]) ?_
  exact b3 k5 m _ _ ⟨_, K, pd, Go_dr σ _, Or.inl ⟨rfl, fun k hk => absurd hk (Nat.not_lt_zero k), h13⟩⟩ rfl rfl (by show 0 + m = m; omega) rfl rfl h4 rfl
end CTG
