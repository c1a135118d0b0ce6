section JnS395
/-! The class: the next member, names, clearing (fors). -/
section CTG
variable {g g' g2 : Nat → Prop} {l l' l2 : List Nat} {t t' t2 : Nat} {σ σ' σ2 : CS} {L : LV} {x y i : Int32} {M M' U U' : Nat → Int32} {K K' K2 K2' K3 K4 K4' KB : Nat → Option Int32} {c : Ct} {B f0 u0 : Nat} {fs : List FrT} {u d : Nat} {r r' : List Nat} {pb nf nc sq rk : Nat}
theorem c_nextMember20 (p : Pre c g l t K K2 K3 K4 B KB f0 u0 σ fs u d r pb nf nc sq) (cs : tcS c u0) {pc n : Nat} (h2 : uN (L.1 2) = uN (σ.1 1901) + 4 + n) (h3 : L.1 3 = nI pc) (hm : HasM n r) (hn : n + 1 < bt d r) (sb : SlB r) (hf : tcF c u ≤ n) (ha : AllM (fun i => i < bsl → ¬ i % 500000 = n + 1) r) (hp : pc + 1 < tcN c) (hN : tcN c ≤ 36864) (hr : Mrl (fun i s => i ∈ s) r' r) (nE : Nx c (uN (nI pc + tcC c (pc + 1))) u d r' rk) (nS : NxS c (pc + 2) u (d + 1) r) : Tm (fun k => f_X3_nextMember__z20 k 0 L σ) (fun q => q.1.1 = 0 ∧ IO c B KB f0 u0 σ (mu σ (qv nf sq rk)) ((0, 0), q.2.1, (q.2.2.1 + 0, q.2.2.2 + 0))) := by
  have mi := p.1
  have ty := p.2.1
  obtain ⟨st1, st2, st3⟩ := mi.2.1.1
  have ts := TyS_sp ty
  have nb : n < bsl := by unfold bsl; omega
  have mk := SL_has (show n < 500000 by omega) r _ _ ty.1 hm
  have e21 : uN (L.1 2 + 1) = uN (σ.1 1901) + 4 + (n + 1) := by rw [u_inc (by omega), h2]; omega
  have c2 : (L.1 2).toNatClampNeg = uN (σ.1 1901) + 4 + n := by rw [u_cl (by omega)]; exact h2
  have c21 : (L.1 2 + 1).toNatClampNeg = uN (σ.1 1901) + 4 + (n + 1) := by rw [u_cl (by omega)]; exact e21
  have gr := Rwk_v st3 (j := uN (σ.1 1901) + 4 + n) (by omega) (Or.inr mk.2)
  have nw : NoW (σ.2.2.1 3) (σ.2.2.1 20 (uN (σ.1 1901) + 4 + n)) := by
    rcases (st3 (uN (σ.1 1901) + 4 + n) (by omega)).2.2 _ mk.2 with z | z
    · exact absurd rfl (mk_nr z.2)
    · exact (mk_w z).2
  have ll := lnC_lt (σ.2.2.1 3) (σ.2.2.1 20 (uN (σ.1 1901) + 4 + n))
  have e3 : uN (L.1 3) = pc := by rw [h3, u_n (by omega)]
  have u2 : uN (2 : Int32) = 2 := rfl
  refine Tm_suc (fun k => by rw [f_X3_nextMember__z20]) ?_
  refine Tm_chk (u_in (x := L.1 2) (by omega) (by omega)) ?_
  refine Tm_chk (u_in (x := L.1 2 + 1) (by omega) (by omega)) ?_
  refine Tm_op c_unraw (fun q1 z1 => ?_)
  rw [z1]
  refine Tm_op (c_length mi.1 (by show Gv g (σ.2.2.1 20 (L.1 2).toNatClampNeg); rw [c2]; exact gr)) (fun q2 z2 => ?_)
  rw [z2]
  generalize hx : nI (uN ((lI lZ 0 (σ.2.2.1 20 (L.1 2 + 1).toNatClampNeg)).1 0) % 268435456) = nx
  have xl : uN nx < 268435456 := by rw [← hx, u_n (by omega)]; omega
  have el : (lI lZ 1 (σ.2.2.1 20 (L.1 2).toNatClampNeg)).1 1 = σ.2.2.1 20 (uN (σ.1 1901) + 4 + n) := by rw [← c2]; rfl
  rw [el]
  refine Tm_ite (fun cl => ?_) (fun _ => ?_)
  · have cl' : nx < nI (lnC (σ.2.2.1 3) (σ.2.2.1 20 (uN (σ.1 1901) + 4 + n))) := cl
    rw [u_ltn (by omega) (by rw [u_n (by omega)]; omega), u_n (by omega)] at cl'
    refine Tm_suc (fun k => by rw [f_X3_nextMember__z20]) ?_
    refine Tm_op c_raw (fun q3 z3 => ?_)
    rw [z3]
    refine Tm_chk (u_in (x := L.1 2 + 1) (by show uN (L.1 2 + 1) < sN σ 20; omega) (by show sN σ 20 ≤ _; omega)) ?_
    generalize hv : rwN (uN ((lI lZ 0 ((lI (lI L 5 (σ.2.2.1 20 (L.1 2).toNatClampNeg)) 6 nx).1 6 + 1)).1 0) % 268435456) = rv
    have rvr : Rr rv := by rw [← hv]; exact rwN_r (by omega)
    have p1 := Pre_20 (x := rv) (n := n + 1) (mk := some mkC) p hn sb (Or.inr (Or.inr ⟨rfl, Gw_rr rvr, by omega⟩)) (Mrl_rf _ ha) (fun i s q b => Or.inl ⟨q.1, q.2 b⟩) (fun i s q b => q.1)
    show Tm (fun k => Jvm.Pilot.CSetHouseLaw_law_r6264_2ea8b6.op (y_X1_taken k 0 (lI (lI lZ 1 (σ.2.2.1 20 (L.1 2).toNatClampNeg)) 2 nx) (uA σ 20 (L.1 2 + 1).toNatClampNeg rv)) (fun r3 => ox (f_X3_push k 0 (lI lZ 1 r3.1) r3.2) (fun r4 => f_X3_nextMember__z20 k 2 (lI (lI L 5 (σ.2.2.1 20 (L.1 2).toNatClampNeg)) 6 nx) (uI r4.2.1 1900 (L.1 3 + 2))))) _
    rw [c2, c21]
    obtain ⟨-, p1, g1⟩ := p1
    generalize hτ : uA σ 20 (uN (σ.1 1901) + 4 + (n + 1)) rv = τ at *
    have τ3 : τ.2.2.1 3 = σ.2.2.1 3 := by rw [← hτ]; rfl
    refine Tm_op (c_taken p1.1.1 gr ?_) (fun q4 z4 => ?_)
    · show (kdC (τ.2.2.1 3) (σ.2.2.1 20 (uN (σ.1 1901) + 4 + n)) = 4 ∧ uN nx < lnC (τ.2.2.1 3) (σ.2.2.1 20 (uN (σ.1 1901) + 4 + n))) ∨ 5 ≤ kdC (τ.2.2.1 3) (σ.2.2.1 20 (uN (σ.1 1901) + 4 + n))
      rw [τ3]
      generalize σ.2.2.1 20 (uN (σ.1 1901) + 4 + n) = h at *
      by_cases lt : uN h < 2147483648
      · have cg := (HQ_c mi.1 (Gv_c gr lt).2).2.2.2.2.2.2.1
        have n2 := nw lt
        unfold kdC
        rw [if_pos lt]
        rcases cg with e | e | e | e
        · exact absurd e n2
        · exact Or.inl ⟨e, cl'⟩
        · exact Or.inr (by omega)
        · exact Or.inr (by omega)
      · unfold lnC at cl' ⊢
        unfold kdC
        rw [if_neg lt] at cl' ⊢
        rw [if_neg lt]
        by_cases e12 : uN h / 268435456 = 12
        · rw [if_pos e12] at cl' ⊢
          exact Or.inl ⟨by omega, cl'⟩
        · rw [if_neg e12] at cl'
          omega
    · have e4 : q4.2 = τ := z4.1
      rw [e4]
      have st' := p1.1.2.1.1
      refine Tm_oxc (c_push st'.1 st'.2.1) (fun q z => by rw [z.1]) (fun q5 z5 => ?_)
      refine Tm_suc (fun k => by rw [f_X3_nextMember__z20]) ?_
      refine Tm_op c_spend (fun q6 e6 => ?_)
      rw [e6]
      refine Tm_some ⟨rfl, ?_⟩
      rw [← mu_e g1.2.2.2.1 g1.2.2.2.2.1]
      refine IO_g g1 (pu_sp (v := L.1 3 + 2) p1 z4.2 z5 ?_ _)
      rw [u_add (by omega), e3, u2]
      exact nS
  · refine Tm_op (c_letGo20 p cs hn sb hf h2 ha) (fun q3 z3 => ?_)
    obtain ⟨K', pl, gl, fl⟩ := z3
    obtain ⟨b, eb, _⟩ := pl.1.2.2.1
    have cr := Ct_row pl.1.2.2.1 eb
    have e31 : uN (L.1 3 + 1) = pc + 1 := by rw [u_inc (by omega), e3]
    refine Tm_oP eb ?_
    refine Tm_chk (u_in (by rw [e31, cr.2.1]; exact hp) (by rw [cr.2.1]; omega)) ?_
    rw [u_cl (by omega), e31, cr.1]
    refine Tm_some ⟨rfl, ?_⟩
    have ps := Pre_sb pl hr (fun i s q => q)
    refine fl_go (σ' := uI q3.2 1900 (L.1 3 + tcC c (pc + 1))) ps gl rfl (fun j hj => upd_other hj) ?_
    show Nx c (uN (L.1 3 + tcC c (pc + 1))) u d r' rk
    rw [h3]
    exact nE
theorem AllM_i {P P' : Nat → Prop} (h : ∀ i, P i → P' i) : ∀ r : List Nat, AllM P r → AllM P' r
  | [], _ => trivial
  | e :: r, q => ⟨fun c i hi => h i (q.1 c i hi), fun c => AllM_i h r (q.2 c)⟩
theorem c_spread20 (p : Pre c g l t K K2 K3 K4 B KB f0 u0 σ fs u (d + 1) r pb nf nc sq) (cs : tcS c u0) (fb : tcF c u ≤ bt d r) {n m : Nat} (hn : n + m ≤ bt d r) (sb : SlB r) (h2 : uN (L.1 2) = uN (σ.1 1901) + 4 + n) (h3 : uN (L.1 3) = m) (h4 : ¬ L.1 4 = 0) (h13 : σ.1 1813 = 0) (ha : AllM (fun i => ¬ (n ≤ i ∧ i < n + m)) r) : Tm (fun k => y_X3_spread__z20 k 0 L σ) (fun q => SpK (fun K' => ∀ k, k < m → K' (uN (σ.1 1901) + 4 + n + k) = none) c g l t K2 K3 K4 B KB f0 u0 fs u d r pb nf nc sq σ q.2 ∧ q.2.1 1901 = σ.1 1901) := by
  have mi := p.1
  have ty := p.2.1
  obtain ⟨st1, st2, st3⟩ := mi.2.1.1
  have ts := TyS_sp ty
  have gh := (Ty_v p (q := (uN (σ.1 1902) - 1)) (by omega) (by omega))
  obtain ⟨pd, es⟩ := Pre_dr (x := 1) (d' := d) (n := 1) p rfl rfl fb
  have td := TyS_sp pd.2.1
  have es' : uN ((uI σ 1902 (σ.1 1902 - 1)).1 1902) = uN (σ.1 1902) - 1 := es
  have f1' : uN ((uI σ 1902 (σ.1 1902 - 1)).1 1901) = uN (σ.1 1901) := rfl
  have b1 : ∀ L' : LV, Tm (fun k => y_X3_spread__z20 k 1 L' (uI σ 1902 (σ.1 1902 - 1))) (fun q => SpK (fun K' => ∀ k, k < m → K' (uN (σ.1 1901) + 4 + n + k) = none) c g l t K2 K3 K4 B KB f0 u0 fs u d r pb nf nc sq σ q.2 ∧ q.2.1 1901 = σ.1 1901) := by
    intro L'
    refine Tm_suc (fun k => by rw [y_X3_spread__z20]) ?_
    refine Tm_oc c_fail (fun q2 e2 => ?_)
    rw [e2]
    refine Tm_some ⟨⟨_, K, pd, Go_dr σ _, Or.inr ⟨rfl, fun j hj => ?_, rfl, by show ¬ (1 : Int32) = 0; decide⟩⟩, rfl⟩
    show upd (upd (upd σ.1 1902 _) 1813 _) 1812 1 j = upd σ.1 1902 _ j
    rw [upd_other (by omega), upd_other (by omega)]
  have b4 : ∀ (L' : LV) (τ : CS), SpK (fun K' => ∀ k, k < m → K' (uN (σ.1 1901) + 4 + n + k) = none) c g l t K2 K3 K4 B KB f0 u0 fs u d r pb nf nc sq σ τ → τ.1 1901 = σ.1 1901 → Tm (fun k => y_X3_spread__z20 k 4 L' τ) (fun q => SpK (fun K' => ∀ k, k < m → K' (uN (σ.1 1901) + 4 + n + k) = none) c g l t K2 K3 K4 B KB f0 u0 fs u d r pb nf nc sq σ q.2 ∧ q.2.1 1901 = σ.1 1901) := by
    intro L' τ pt f1
    refine Tm_suc (fun k => by rw [y_X3_spread__z20]) ?_
    exact Tm_some ⟨pt, f1⟩
  have b3 : kdC (σ.2.2.1 3) (σ.2.2.1 20 (uN (σ.1 1902) - 1)) = 5 → ∀ (k : Nat) (L' : LV) (τ : CS), SpK (fun K' => (∀ k, k < uN (L'.1 6) → K' (uN (σ.1 1901) + 4 + n + k) = none) ∧ τ.1 1813 = 0) c g l t K2 K3 K4 B KB f0 u0 fs u d r pb nf nc sq σ τ → τ.1 1901 = σ.1 1901 → τ.2.2.1 3 = σ.2.2.1 3 → uN (L'.1 6) + k = m → L'.1 2 = L.1 2 → L'.1 3 = L.1 3 → ¬ L'.1 4 = 0 → L'.1 5 = σ.2.2.1 20 (uN (σ.1 1902) - 1) → Tm (fun k => y_X3_spread__z20 k 3 L' τ) (fun q => SpK (fun K' => ∀ k, k < m → K' (uN (σ.1 1901) + 4 + n + k) = none) c g l t K2 K3 K4 B KB f0 u0 fs u d r pb nf nc sq σ q.2 ∧ q.2.1 1901 = σ.1 1901) := by
    intro k5 k
    induction k with
    | zero =>
      intro L' τ pt f1 t3 l6 l2 l3 l4 l5
      refine Tm_suc (fun k => by rw [y_X3_spread__z20]) ?_
      exact Tm_yes (by rw [l3, u_le (by omega) (by omega)]; omega) (b4 _ _ (by
        obtain ⟨σ1, K1, pp, gg, hh⟩ := pt
        exact ⟨σ1, K1, pp, gg, hh.imp (fun z => ⟨z.1, fun k hk => z.2.1 k (by omega)⟩) id⟩) f1)
    | succ k ih =>
      intro L' τ pt f1 t3 l6 l2 l3 l4 l5
      have f1u : uN (τ.1 1901) = uN (σ.1 1901) := by rw [f1]
      have ea : uN (L'.1 2 + L'.1 6) = uN (τ.1 1901) + 4 + (n + uN (L'.1 6)) := by rw [l2, u_add (by omega), h2, f1u]; omega
      refine Tm_suc (fun k => by rw [y_X3_spread__z20]) ?_
      refine Tm_no (by rw [l3, u_le (by omega) (by omega)]; omega) ?_
      refine Tm_ite (fun c13 => ?_) (fun c13 => b4 _ _ (by
        obtain ⟨σ1, K1, pp, gg, hh⟩ := pt
        exact ⟨σ1, K1, pp, gg, hh.imp (fun z => absurd z.2.2 c13) id⟩) f1)
      refine Tm_no l4 ?_
      obtain ⟨σ1, K1, pp, gg, hh⟩ := pt
      rcases hh with ⟨e, hk, _⟩ | ⟨_, _, _, ne⟩
      · subst e
        have sq5 : Sq5 g τ (L'.1 5) := by
          refine Sq5_k (by rw [l5]; exact gh) ?_
          rw [t3, l5]; omega
        refine Tm_ocE (c_member pp.1.1 sq5.1 sq5.2) ?_
        refine Tm_oc (c_assign pp cs ea (mbC_g pp.1.1 sq5.1 sq5.2) (WP_sl (by omega) sb (AllM_i (fun i hi e => hi (by omega)) r ha))) (fun q z => ?_)
        obtain ⟨⟨σ2, K2', z1, z2, z3⟩, z4, z5⟩ := z
        refine Tm_suc (fun k => by rw [y_X3_spread__z20]) ?_
        refine ih _ _ ⟨σ2, K2', z1, Go_t gg z2, ?_⟩ (z4.trans f1) (z5.trans t3) ?_ l2 l3 l4 l5
        · rcases z3 with ⟨y1, y2, y3⟩ | y
          · left
            refine ⟨y1, fun k hk' => ?_, ?_⟩
            · have hk2 : k < uN (L'.1 6 + 1) := hk'
              rw [u_inc (by omega)] at hk2
              rw [y2]
              by_cases y : k = uN (L'.1 6)
              · exact Kw_i (by omega) (by omega)
              · rw [Kw_o (by omega)]; exact hk k (by omega)
            · show q.2.1 1813 = 0
              rw [y3]
              exact c13
          · exact Or.inr y
        · show uN (L'.1 6 + 1) + k = m
          rw [u_inc (by omega)]; omega
      · exact absurd c13 ne
  refine Tm_suc (fun k => by rw [y_X3_spread__z20]) ?_
  refine Tm_oc (c_pop (by omega) st1 st2.2) (fun q e => ?_)
  rw [e.1]
  refine Tm_ocE (c_kind pd.1.1 gh) ?_
  refine Tm_ite (fun c5 => ?_) (fun _ => b1 _)
  have k5 : kdC (σ.2.2.1 3) (σ.2.2.1 20 (uN (σ.1 1902) - 1)) = 5 := kd_n (n := 5) (by decide) c5
  refine Tm_ocE (c_length pd.1.1 gh) ?_
  refine Tm_ite (fun _ => ?_) (fun _ => b1 _)
  refine Tm_suc (fun k => by rw [y_X3_spread__z20]) ?_
  exact b3 k5 m _ _ ⟨_, K, pd, Go_dr σ _, Or.inl ⟨rfl, fun k hk => absurd hk (Nat.not_lt_zero k), h13⟩⟩ rfl rfl (by show 0 + m = m; omega) rfl rfl h4 rfl
end CTG
end JnS395
section JnS396
/-! The class: clearing of a for. -/
section CTH
variable {g g' g2 : Nat → Prop} {l l' l2 : List Nat} {t t' t2 : Nat} {σ σ' σ2 : CS} {L : LV} {x y i : Int32} {M M' U U' : Nat → Int32} {K K' K2 K2' K3 K4 K4' KB : Nat → Option Int32} {c : Ct} {B f0 u0 : Nat} {fs : List FrT} {u d : Nat} {r r' : List Nat} {pb nf nc sq rk : Nat}
theorem om_le {x : Int32} (h1 : 1 ≤ uN x) (h2 : uN x < 1024) : (1 : Int32) - x ≤ 0 := by
  have a : ∀ m, m < 1024 → 1 ≤ m → (1 : Int32) - nI m ≤ 0 := by decide +kernel
  have e : x = nI (uN x) := u_eq.2 (u_n (by omega)).symm
  rw [e]
  exact a _ h2 h1
theorem c_sizeOM (h : L.1 1 = -2147483648) : Tm (fun k => y_X1_size k 0 L σ) (fun r => r = (1, σ)) := by
  refine Tm_suc (fun k => by rw [y_X1_size]) ?_
  rw [h]
  refine Tm_yes (by decide) ?_
  refine Tm_suc (fun k => by rw [y_X1_size]) ?_
  rw [h]
  refine Tm_no (by decide) ?_
  refine Tm_no (by decide) ?_
  refine Tm_suc (fun k => by rw [y_X1_size]) ?_
  refine Tm_suc (fun k => by rw [y_X1_size]) ?_
  exact Tm_some rfl
theorem c_assignOM (p : Pre c g l t K K2 K3 K4 B KB f0 u0 σ fs u d r pb nf nc sq) (cs : tcS c u0) {j : Nat} (h1 : uN (L.1 1) = j) (h2 : L.1 2 = -2147483648) (wp : WP c g l t K2 K3 K4 B KB f0 u0 fs u d r pb nf nc sq (uN (σ.1 1901)) j) : Tm (fun k => y_X3_assign k 0 L σ) (fun q => ∃ K', Pre c g l t K' K2 K3 K4 B KB f0 u0 q.2 fs u d r pb nf nc sq ∧ Go c u0 σ q.2 ∧ q.2.1 1901 = σ.1 1901) := by
  have st := p.1.2.1.1
  have gx : Gv g (L.1 2) := by rw [h2]; exact Gv_om g
  have jl := (wp σ K _ p rfl gx).1
  have i1 : ¬ (L.1 1 < 0 ∨ sN σ 20 ≤ (L.1 1).toNatClampNeg) := u_in (by omega) (by omega)
  have c1 : (L.1 1).toNatClampNeg = j := by rw [u_cl (by omega)]; exact h1
  have b3 : ∀ (L' : LV) (τ : CS), L'.1 1 = L.1 1 → L'.1 2 = L.1 2 → Pre c g l t K K2 K3 K4 B KB f0 u0 τ fs u d r pb nf nc sq → Go c u0 σ τ → τ.1 1901 = σ.1 1901 → Tm (fun k => y_X3_assign k 3 L' τ) (fun q => ∃ K', Pre c g l t K' K2 K3 K4 B KB f0 u0 q.2 fs u d r pb nf nc sq ∧ Go c u0 σ q.2 ∧ q.2.1 1901 = σ.1 1901) := by
    intro L' τ l1 l2 pt gt f1
    have st' := pt.1.2.1.1
    obtain ⟨pa, ga⟩ := Pre_tl pt cs (Or.inr rfl) (L'.1 100)
    have z := wp _ K (L'.1 2) pa (by show uN (τ.1 1901) = _; rw [f1]) (by rw [l2]; exact gx)
    obtain ⟨z1, z2, z3⟩ := z
    refine Tm_suc (fun k => by rw [y_X3_assign]) ?_
    refine Tm_chk (by rw [l1]; exact u_in (by show uN (L.1 1) < sN τ 20; have z1' : j < uN (τ.1 1902) := z1; omega) (by show sN τ 20 ≤ _; omega)) ?_
    rw [l1, c1]
    exact Tm_some ⟨_, z2, Go_t gt (Go_t ga z3), f1⟩
  have b1 : ∀ (L' : LV), L'.1 1 = L.1 1 → L'.1 2 = L.1 2 → Tm (fun k => y_X3_assign k 1 L' σ) (fun q => ∃ K', Pre c g l t K' K2 K3 K4 B KB f0 u0 q.2 fs u d r pb nf nc sq ∧ Go c u0 σ q.2 ∧ q.2.1 1901 = σ.1 1901) := by
    intro L' l1 l2
    obtain ⟨pa, ga⟩ := Pre_tl p cs (Or.inl rfl) (σ.1 1909 + L'.1 4)
    refine Tm_suc (fun k => by rw [y_X3_assign]) ?_
    refine Tm_ite (fun _ => ?_) (fun _ => ?_)
    · refine Tm_suc (fun k => by rw [y_X3_assign]) ?_
      exact b3 _ _ l1 l2 pa ga rfl
    · exact b3 _ _ l1 l2 pa ga rfl
  refine Tm_suc (fun k => by rw [y_X3_assign]) ?_
  refine Tm_oc (c_sizeOM h2) (fun q z => ?_)
  rw [z]
  refine Tm_chk i1 ?_
  refine Tm_oc (c_sizeW p.1.1 (by show Gw g (σ.2.2.1 20 (L.1 1).toNatClampNeg); rw [c1]; exact (st.2.2 j jl).1)) (fun q2 z2 => ?_)
  have e2 : q2.2 = σ := z2.1
  rw [e2]
  exact Tm_yes (om_le z2.2.1 z2.2.2) (b1 _ rfl rfl)
theorem c_clearFor (p : Pre c g l t K K2 K3 K4 B KB f0 u0 σ fs u d r pb nf nc sq) (cs : tcS c u0) {n n2 m : Nat} (hn : n + 1 < bt d r) (sb : SlB r) (hf : tcF c u ≤ n) (h1 : uN (L.1 1) = uN (σ.1 1901) + 4 + n) (ha : AllM (fun i => i < bsl → ¬ i % 500000 = n + 1) r) (h2 : uN (L.1 2) = uN (σ.1 1901) + 4 + n2) (h3 : uN (L.1 3) = m) (hm : n2 + m ≤ bt d r) (ha2 : AllM (fun i => ¬ (n2 ≤ i ∧ i < n2 + m)) r) : Tm (fun k => y_X3_clearFor k 0 L σ) (fun q => ∃ K', Pre c g l t K' K2 K3 K4 B KB f0 u0 q.2 fs u d r pb nf nc sq ∧ Go c u0 σ q.2 ∧ q.2.1 1901 = σ.1 1901) := by
  have st := p.1.2.1.1
  have ts := TyS_sp p.2.1
  have b1 : ∀ (k : Nat) (L' : LV) (τ : CS) (K' : Nat → Option Int32), Pre c g l t K' K2 K3 K4 B KB f0 u0 τ fs u d r pb nf nc sq → Go c u0 σ τ → τ.1 1901 = σ.1 1901 → L'.1 2 = L.1 2 → L'.1 3 = L.1 3 → uN (L'.1 4) + k = uN (σ.1 1901) + 4 + n2 + m → uN (σ.1 1901) + 4 + n2 ≤ uN (L'.1 4) → Tm (fun k => y_X3_clearFor k 1 L' τ) (fun q => ∃ K', Pre c g l t K' K2 K3 K4 B KB f0 u0 q.2 fs u d r pb nf nc sq ∧ Go c u0 σ q.2 ∧ q.2.1 1901 = σ.1 1901) := by
    intro k
    induction k with
    | zero =>
      intro L' τ K' pt gt f1 l2 l3 l4 l5
      refine Tm_suc (fun k => by rw [y_X3_clearFor]) ?_
      refine Tm_yes (by rw [l2, l3, u_le (by rw [u_add (by omega)]; omega) (by omega), u_add (by omega)]; omega) ?_
      refine Tm_suc (fun k => by rw [y_X3_clearFor]) ?_
      exact Tm_some ⟨K', pt, gt, f1⟩
    | succ k ih =>
      intro L' τ K' pt gt f1 l2 l3 l4 l5
      have f1u : uN (τ.1 1901) = uN (σ.1 1901) := by rw [f1]
      refine Tm_suc (fun k => by rw [y_X3_clearFor]) ?_
      refine Tm_no (by rw [l2, l3, u_le (by rw [u_add (by omega)]; omega) (by omega), u_add (by omega)]; omega) ?_
      refine Tm_oc (c_assignOM (j := uN (τ.1 1901) + 4 + (uN (L'.1 4) - (uN (σ.1 1901) + 4))) pt cs (by show uN (L'.1 4) = _; omega) rfl (WP_sl (by omega) sb (AllM_i (fun i hi e => hi (by omega)) r ha2))) (fun q z => ?_)
      obtain ⟨K1, z1, z2, z3⟩ := z
      refine ih _ _ K1 z1 (Go_t gt z2) (z3.trans f1) l2 l3 ?_ ?_
      · show uN (L'.1 4 + 1) + k = _
        rw [u_inc (by omega)]; omega
      · show _ ≤ uN (L'.1 4 + 1)
        rw [u_inc (by omega)]; omega
  refine Tm_suc (fun k => by rw [y_X3_clearFor]) ?_
  refine Tm_oc (c_letGo20 p cs hn sb hf h1 ha) (fun q z => ?_)
  obtain ⟨K1, z1, z2, z3⟩ := z
  exact b1 m _ _ K1 z1 z2 z3 rfl rfl (by show uN (L.1 2) + m = _; omega) (by show _ ≤ uN (L.1 2); omega)
end CTH
end JnS396
section JnS397
/-! The class: iterate. -/
section CTI
variable {g g' g2 : Nat → Prop} {l l' l2 : List Nat} {t t' t2 : Nat} {σ σ' σ2 : CS} {L : LV} {x y i : Int32} {M M' U U' : Nat → Int32} {K K' K2 K2' K3 K4 K4' KB : Nat → Option Int32} {c : Ct} {B f0 u0 : Nat} {fs : List FrT} {u d : Nat} {r r' : List Nat} {pb nf nc sq rk : Nat}
def Ok4 (c : Ct) (pc u d : Nat) (r : List Nat) (rk op n : Nat) : Prop := (op = 64 → ∃ d' r', d = d' + 1 ∧ tcF c u ≤ bt d' r ∧ n + 1 < 180 ∧ Mrl (fun i s => i = bsl + n ∨ i ∈ s) r' r ∧ AllM (fun i => bsl ≤ i → ¬ (i - bsl) % 500000 = n + 1) r' ∧ Nx c (pc + 1) u d' r' rk) ∧ (op = 65 → ∃ r', HasM (bsl + n) r ∧ n + 1 < 180 ∧ AllM (fun i => bsl ≤ i → ¬ (i - bsl) % 500000 = n + 1) r ∧ pc + 1 < tcN c ∧ Mrl (fun i s => i ∈ s) r' r ∧ Nx c (uN (nI pc + tcC c (pc + 1))) u d r' rk ∧ NxS c (pc + 2) u (d + 1) r) ∧ (op = 66 → ∃ d' r1 r', d = d' + 1 ∧ tcF c u ≤ bt d' r ∧ n < 180 ∧ Mrl (fun i s => i ∈ s) r1 r ∧ AllM (fun i => ¬ i = bsl + n) r1 ∧ Mrl (fun i s => i ∈ s ∨ i = bsl + 500000 + n) r' r1 ∧ Nx c (pc + 1) u d' r' rk) ∧ (op = 67 → ∃ d' r1 r', d = d' + 1 ∧ tcF c u ≤ bt d' r ∧ pc + 1 < tcN c ∧ n + uN (tcC c (pc + 1)) ≤ 180 ∧ Mrl (fun i s => i ∈ s) r1 r ∧ AllM (fun i => ¬ (bsl + n ≤ i ∧ i < bsl + n + uN (tcC c (pc + 1)))) r1 ∧ Mrl (fun i s => i ∈ s ∨ (bsl + 500000 + n ≤ i ∧ i < bsl + 500000 + n + uN (tcC c (pc + 1)))) r' r1 ∧ Nx c (pc + 2) u d' r' rk) ∧ (op = 68 → ∃ r', pc + 1 < tcN c ∧ n + uN (tcC c (pc + 1)) ≤ 180 ∧ Mrl (fun i s => i ∈ s) r' r ∧ AllM (fun i => ¬ (bsl + n ≤ i ∧ i < bsl + n + uN (tcC c (pc + 1)))) r' ∧ Nx c (pc + 2) u d r' rk) ∧ (69 ≤ op → tcS c u ∧ SlB r) ∧ (op = 69 → ∃ d' r', d = d' + 1 ∧ tcF c u ≤ bt d' r ∧ n + 1 < bt d' r ∧ tcF c u ≤ n ∧ Mrl (fun i s => i = n ∨ i ∈ s) r' r ∧ AllM (fun i => i < bsl → ¬ i % 500000 = n + 1) r' ∧ SlB r' ∧ Nx c (pc + 1) u d' r' rk) ∧ (op = 70 → ∃ r', HasM n r ∧ n + 1 < bt d r ∧ tcF c u ≤ n ∧ AllM (fun i => i < bsl → ¬ i % 500000 = n + 1) r ∧ pc + 1 < tcN c ∧ Mrl (fun i s => i ∈ s) r' r ∧ Nx c (uN (nI pc + tcC c (pc + 1))) u d r' rk ∧ NxS c (pc + 2) u (d + 1) r) ∧ (op = 71 → ∃ d' r', d = d' + 1 ∧ tcF c u ≤ bt d' r ∧ n < bt d' r ∧ AllM (fun i => ¬ i = n) r ∧ Mrl (fun i s => i ∈ s ∨ i = 500000 + n) r' r ∧ Nx c (pc + 1) u d' r' rk) ∧ (op = 72 → ∃ d' r', d = d' + 1 ∧ tcF c u ≤ bt d' r ∧ pc + 1 < tcN c ∧ n + uN (tcC c (pc + 1)) ≤ bt d' r ∧ AllM (fun i => ¬ (n ≤ i ∧ i < n + uN (tcC c (pc + 1)))) r ∧ Mrl (fun i s => i ∈ s ∨ (500000 + n ≤ i ∧ i < 500000 + n + uN (tcC c (pc + 1)))) r' r ∧ Nx c (pc + 2) u d' r' rk) ∧ (op = 73 → ∃ r', pc + 2 < tcN c ∧ n + 1 < bt d r ∧ tcF c u ≤ n ∧ AllM (fun i => i < bsl → ¬ i % 500000 = n + 1) r ∧ uN (tcC c (pc + 1)) + uN (tcC c (pc + 2)) ≤ bt d r ∧ AllM (fun i => ¬ (uN (tcC c (pc + 1)) ≤ i ∧ i < uN (tcC c (pc + 1)) + uN (tcC c (pc + 2)))) r ∧ Mrl (fun i s => i ∈ s) r' r ∧ Nx c (pc + 3) u d r' rk)
theorem c_iterA (p : Pre c g l t K K2 K3 K4 B KB f0 u0 σ fs u d r pb nf nc sq) {pc op : Nat} (h64 : 64 ≤ op) (h69 : op < 69) (h1 : L.1 1 = nI op) (h3 : L.1 3 = nI pc) (hp : pc + 1 ≤ tcN c) (hN : tcN c ≤ 36864) (hpc : σ.1 1900 = nI (pc + 1)) (hn : uN (L.1 2) < 200) (h13 : σ.1 1813 = 0) (ok : Ok4 c pc u d r rk op (uN (L.1 2))) : Tm (fun k => f_X3_iterate k 0 L σ) (IO c B KB f0 u0 σ (mu σ (qv nf sq rk))) := by
  have mi := p.1
  have ty := p.2.1
  obtain ⟨st1, st2, st3⟩ := mi.2.1.1
  have ts := TyS_sp ty
  have fbb := (FC_b _ _ _ _ _ _ _ ty.2.1).1
  have n20 := ty.2.2.2.1.2
  have epb : uN (σ.1 1811) = pb := ty.2.2.2.2.1
  have e3 : uN (L.1 3) = pc := by rw [h3, u_n (by omega)]
  have epc : uN (nI (pc + 1)) = pc + 1 := u_n (by omega)
  have e31 : uN (L.1 3 + 1) = pc + 1 := by rw [u_inc (by omega), e3]
  have e32 : uN (L.1 3 + 2) = pc + 2 := by rw [u_add (by rw [e3]; show pc + 2 < _; omega), e3]; rfl
  have c31 : (L.1 3 + 1).toNatClampNeg = pc + 1 := by rw [u_cl (by omega)]; exact e31
  have b22 : ∀ (σ' : CS) (L' : LV) (Q : RS → Prop), Q ((0, 0), σ', (0, 0)) → Tm (fun k => f_X3_iterate k 22 L' σ') Q := by
    intro σ' L' Q h
    refine Tm_suc (fun k => by rw [f_X3_iterate]) ?_
    exact Tm_some h
  obtain ⟨b, eb, _⟩ := mi.2.2.1
  have cr := Ct_row mi.2.2.1 eb
  obtain ⟨o64, o65, o66, o67, o68, _⟩ := ok
  have b9 : ∀ L' : LV, L'.1 1 = nI op → L'.1 2 = L.1 2 → L'.1 3 = L.1 3 → L'.1 4 = 0 → L'.1 100 = σ.1 1811 → Tm (fun k => f_X3_iterate k 9 L' σ) (IO c B KB f0 u0 σ (mu σ (qv nf sq rk))) := by
    intro L' l1 l2 l3 l4 l100
    have e6 : uN (L'.1 100 + L'.1 2) = pb + uN (L.1 2) := by rw [l100, l2, u_add (by omega), epb]
    refine Tm_suc (fun k => by rw [f_X3_iterate]) ?_
    rw [l1]
    rcases (by omega : op = 64 ∨ op = 65 ∨ op = 66 ∨ op = 67 ∨ op = 68) with e | e | e | e | e
    · obtain ⟨d', r', k1, k2, k3, k4, k5, k6⟩ := o64 e
      subst e
      subst k1
      refine Tm_yes rfl ?_
      refine Tm_suc (fun k => by rw [f_X3_iterate]) ?_
      refine Tm_op (c_goOver23 (n := uN (L.1 2)) p k2 k3 e6 l4 k4 k5 (by rw [hpc, epc]; exact k6)) (fun q z => ?_)
      exact b22 _ _ _ z
    · obtain ⟨r', k1, k2, k3, k4, k5, k6, k7⟩ := o65 e
      subst e
      refine Tm_no (by decide) (Tm_yes rfl ?_)
      refine Tm_suc (fun k => by rw [f_X3_iterate]) ?_
      refine Tm_oxc (c_nextMember23 (n := uN (L.1 2)) (pc := pc) p e6 (l3.trans h3) l4 k1 k2 k3 k4 hN k5 k6 k7) (fun q z => z.1) (fun q z => ?_)
      exact b22 _ _ _ z.2
    · obtain ⟨d', r1, r', k1, k2, k3, k4, k5, k55, k6⟩ := o66 e
      subst e
      subst k1
      obtain ⟨pd, es⟩ := Pre_dr (x := 1) (d' := d') (n := 1) p rfl rfl k2
      have ps := Pre_sb pd k4 (fun i s q => q)
      have c6 : (L'.1 100 + L'.1 2).toNatClampNeg = pb + uN (L.1 2) := by rw [u_cl (by omega)]; exact e6
      have pq := Pre_23 (x := σ.2.2.1 20 (uN (σ.1 1902) - 1)) (j := pb + uN (L.1 2)) (mk := none) ps ⟨by omega, by omega⟩ (Or.inl ⟨rfl, Ty_v p (q := (uN (σ.1 1902) - 1)) (by omega) (by omega)⟩) (Mrl_rf _ k5) (fun i s q b => q.1) (fun i s q b => by
        by_cases y : pb + (i - bsl) % 500000 = pb + uN (L.1 2)
        · right
          exact ⟨by omega, y, Mkk_n (fun lt => q.2 (by omega))⟩
        · exact Or.inl ⟨q.1, y⟩)
      have pq2 := Pre_av pq.1 k55 (fun i s q b => by
        rcases q with q | q
        · exact Or.inl q
        · exact absurd b (by omega)) (fun i s q b => by
        rcases q with q | q
        · exact Or.inl q
        · right
          have e1 : (i - bsl) % 500000 = uN (L.1 2) := by omega
          rw [e1, Kw_i (Nat.le_refl _) (by omega)]
          exact ⟨by omega, Mkk_n (by omega)⟩)
      refine Tm_no (by decide) (Tm_no (by decide) (Tm_yes rfl ?_))
      refine Tm_suc (fun k => by rw [f_X3_iterate]) ?_
      refine Tm_op (c_pop (by omega) st1 st2.2) (fun q e => ?_)
      rw [e.1]
      refine Tm_chk (u_in (x := L'.1 100 + L'.1 2) (by omega) (by omega)) ?_
      refine b22 _ _ _ ?_
      show IO c B KB f0 u0 σ (mu σ (qv nf sq rk)) ((0, 0), uA (uI σ 1902 (σ.1 1902 - 1)) 23 (L'.1 100 + L'.1 2).toNatClampNeg (σ.2.2.1 20 (uN (σ.1 1902) - 1)), (0, 0))
      rw [c6]
      refine fl_go pq2 (Go_t (Go_dr σ _) pq.2) rfl (fun _ _ => rfl) ?_
      show Nx c (uN (σ.1 1900)) u d' r' rk
      rw [hpc, epc]
      exact k6
    · obtain ⟨d', r1, r', k1, k2, k3, k4, k5, k6, k66, k7⟩ := o67 e
      subst e
      subst k1
      refine Tm_no (by decide) (Tm_no (by decide) (Tm_no (by decide) (Tm_yes rfl ?_)))
      refine Tm_suc (fun k => by rw [f_X3_iterate]) ?_
      refine Tm_oP eb ?_
      have l3' : (lI L' 6 (L'.1 100 + L'.1 2)).1 3 = L.1 3 := l3
      rw [l3']
      refine Tm_chk (u_in (by rw [e31, cr.2.1]; exact k3) (by rw [cr.2.1]; omega)) ?_
      rw [c31, cr.1]
      refine Tm_op (c_spread23 (n := uN (L.1 2)) (m := uN (tcC c (pc + 1))) p k2 k4 e6 rfl l4 h13 k5 k6) (fun q z => ?_)
      exact b22 _ _ _ (SpO_io (v := L.1 3 + 2) k4 z k66 (by rw [e32]; exact k7))
    · obtain ⟨r', k3, k4, k5, k6, k7⟩ := o68 e
      subst e
      have ps := Pre_sb p k5 (fun i s q => q)
      have lp : ∀ (k : Nat) (L2 : LV) (τ : CS) (K4' : Nat → Option Int32), Pre c g l t K K2 K3 K4' B KB f0 u0 τ fs u d r' pb nf nc sq → Go c u0 σ τ → uN (L2.1 7) = k → k ≤ uN (tcC c (pc + 1)) → L2.1 3 = L.1 3 → uN (L2.1 6) = pb + uN (L.1 2) → Tm (fun k => f_X3_iterate k 24 L2 τ) (IO c B KB f0 u0 σ (mu σ (qv nf sq rk))) := by
        intro k
        induction k with
        | zero =>
          intro L2 τ K4' pt gt m7 mk m3 m6
          refine Tm_suc (fun k => by rw [f_X3_iterate]) ?_
          refine Tm_yes (by rw [u_le (by omega) (by decide)]; show uN (L2.1 7) ≤ 0; omega) ?_
          refine Tm_suc (fun k => by rw [f_X3_iterate]) ?_
          rw [m3]
          refine b22 _ _ _ (fl_go (σ' := uI τ 1900 (L.1 3 + 2)) pt gt rfl (fun j hj => upd_other hj) ?_)
          show Nx c (uN (L.1 3 + 2)) u d r' rk
          rw [e32]
          exact k7
        | succ k ih =>
          intro L2 τ K4' pt gt m7 mk m3 m6
          have ei : uN (L2.1 6 + L2.1 7 - 1) = pb + uN (L.1 2) + k := by
            rw [u_sub (by rw [u_add (by omega)]; show 1 ≤ _; omega), u_add (by omega)]
            show _ - 1 = _
            omega
          have ci : (L2.1 6 + L2.1 7 - 1).toNatClampNeg = pb + uN (L.1 2) + k := by rw [u_cl (by omega)]; exact ei
          have pq := Pre_23 (x := -2147483648) (j := pb + uN (L.1 2) + k) (mk := none) pt ⟨by omega, by omega⟩ (Or.inl ⟨rfl, Gv_om g⟩) (Mrl_rf _ k6) (fun i s q b => q.1) (fun i s q b => by
            by_cases y : pb + (i - bsl) % 500000 = pb + uN (L.1 2) + k
            · right
              exact ⟨by omega, y, Mkk_n (fun lt => q.2 (by omega))⟩
            · exact Or.inl ⟨q.1, y⟩)
          refine Tm_suc (fun k => by rw [f_X3_iterate]) ?_
          refine Tm_no (by rw [u_le (by omega) (by decide)]; show ¬ uN (L2.1 7) ≤ 0; omega) ?_
          refine Tm_chk (u_in (by omega) (by omega)) ?_
          rw [ci]
          refine ih _ _ _ pq.1 (Go_t gt pq.2) ?_ (by omega) m3 m6
          show uN (L2.1 7 + (-1)) = k
          rw [u_dec (by omega)]
          omega
      refine Tm_no (by decide) (Tm_no (by decide) (Tm_no (by decide) (Tm_no (by decide) (Tm_yes rfl ?_))))
      refine Tm_suc (fun k => by rw [f_X3_iterate]) ?_
      refine Tm_oP eb ?_
      have l3' : (lI L' 6 (L'.1 100 + L'.1 2)).1 3 = L.1 3 := l3
      rw [l3']
      refine Tm_chk (u_in (by rw [e31, cr.2.1]; exact k3) (by rw [cr.2.1]; omega)) ?_
      rw [c31, cr.1]
      exact lp _ _ σ K4 ps (Go_r σ) rfl (Nat.le_refl _) l3 e6
  refine Tm_suc (fun k => by rw [f_X3_iterate]) ?_
  refine Tm_yes (by rw [h1, u_ltn (by rw [u_n (by omega)]; omega) (by decide), u_n (by omega)]; exact h69) ?_
  refine Tm_suc (fun k => by rw [f_X3_iterate]) ?_
  refine Tm_suc (fun k => by rw [f_X3_iterate]) ?_
  refine Tm_yes rfl ?_
  refine Tm_suc (fun k => by rw [f_X3_iterate]) ?_
  refine Tm_suc (fun k => by rw [f_X3_iterate]) ?_
  refine Tm_yes rfl ?_
  refine Tm_suc (fun k => by rw [f_X3_iterate]) ?_
  exact b9 _ h1 rfl rfl rfl rfl
end CTI
end JnS397
section JnS398
/-! The class: iterate (fors). -/
section CTJ
variable {g g' g2 : Nat → Prop} {l l' l2 : List Nat} {t t' t2 : Nat} {σ σ' σ2 : CS} {L : LV} {x y i : Int32} {M M' U U' : Nat → Int32} {K K' K2 K2' K3 K4 K4' KB : Nat → Option Int32} {c : Ct} {B f0 u0 : Nat} {fs : List FrT} {u d : Nat} {r r' : List Nat} {pb nf nc sq rk : Nat}
theorem c_iterB (p : Pre c g l t K K2 K3 K4 B KB f0 u0 σ fs u d r pb nf nc sq) {pc op : Nat} (h69 : 69 ≤ op) (h73 : op ≤ 73) (h1 : L.1 1 = nI op) (h3 : L.1 3 = nI pc) (hp : pc + 1 ≤ tcN c) (hN : tcN c ≤ 36864) (hpc : σ.1 1900 = nI (pc + 1)) (hn : uN (L.1 2) < 200) (h13 : σ.1 1813 = 0) (ok : Ok4 c pc u d r rk op (uN (L.1 2))) : Tm (fun k => f_X3_iterate k 0 L σ) (IO c B KB f0 u0 σ (mu σ (qv nf sq rk))) := by
  have mi := p.1
  have ty := p.2.1
  obtain ⟨st1, st2, st3⟩ := mi.2.1.1
  have ts := TyS_sp ty
  have e3 : uN (L.1 3) = pc := by rw [h3, u_n (by omega)]
  have epc : uN (nI (pc + 1)) = pc + 1 := u_n (by omega)
  have e31 : uN (L.1 3 + 1) = pc + 1 := by rw [u_inc (by omega), e3]
  have e32 : uN (L.1 3 + 2) = pc + 2 := by rw [u_add (by rw [e3]; show pc + 2 < _; omega), e3]; rfl
  have e33 : uN (L.1 3 + 3) = pc + 3 := by rw [u_add (by rw [e3]; show pc + 3 < _; omega), e3]; rfl
  have c31 : (L.1 3 + 1).toNatClampNeg = pc + 1 := by rw [u_cl (by omega)]; exact e31
  have c32 : (L.1 3 + 2).toNatClampNeg = pc + 2 := by rw [u_cl (by omega)]; exact e32
  have b22 : ∀ (σ' : CS) (L' : LV) (Q : RS → Prop), Q ((0, 0), σ', (0, 0)) → Tm (fun k => f_X3_iterate k 22 L' σ') Q := by
    intro σ' L' Q h
    refine Tm_suc (fun k => by rw [f_X3_iterate]) ?_
    exact Tm_some h
  obtain ⟨b, eb, _⟩ := mi.2.2.1
  have cr := Ct_row mi.2.2.1 eb
  obtain ⟨-, -, -, -, -, o, o69, o70, o71, o72, o73⟩ := ok
  obtain ⟨cu, sb⟩ := o h69
  have cs : tcS c u0 := FC_S _ _ _ _ _ _ _ ty.2.1 cu
  have e14 : uN (σ.1 1901 + 4) = uN (σ.1 1901) + 4 := by rw [u_add (by show uN (σ.1 1901) + 4 < _; omega)]; rfl
  have b7 : ∀ L' : LV, L'.1 1 = nI op → L'.1 2 = L.1 2 → L'.1 3 = L.1 3 → L'.1 4 = 1 → L'.1 100 = σ.1 1901 + 4 → Tm (fun k => f_X3_iterate k 7 L' σ) (IO c B KB f0 u0 σ (mu σ (qv nf sq rk))) := by
    intro L' l1 l2 l3 l4 l100
    have e6 : uN (L'.1 100 + L'.1 2) = uN (σ.1 1901) + 4 + uN (L.1 2) := by rw [l100, l2, u_add (by omega), e14]
    have l3' : (lI L' 6 (L'.1 100 + L'.1 2)).1 3 = L.1 3 := l3
    refine Tm_suc (fun k => by rw [f_X3_iterate]) ?_
    rw [l1]
    rcases (by omega : op = 69 ∨ op = 70 ∨ op = 71 ∨ op = 72 ∨ op = 73) with e | e | e | e | e
    · obtain ⟨d', r', k1, k2, k3, k4, k5, k6, k7, k8⟩ := o69 e
      subst e
      subst k1
      refine Tm_no (by decide) (Tm_no (by decide) (Tm_no (by decide) (Tm_no (by decide) (Tm_no (by decide) (Tm_yes rfl ?_)))))
      refine Tm_suc (fun k => by rw [f_X3_iterate]) ?_
      refine Tm_op (c_goOver20 (n := uN (L.1 2)) p cs k2 k3 sb k4 e6 k5 k6 k7 (by rw [hpc, epc]; exact k8)) (fun q z => ?_)
      exact b22 _ _ _ z
    · obtain ⟨r', k1, k2, k3, k4, k5, k6, k7, k8⟩ := o70 e
      subst e
      refine Tm_no (by decide) (Tm_no (by decide) (Tm_no (by decide) (Tm_no (by decide) (Tm_no (by decide) (Tm_no (by decide) (Tm_yes rfl ?_))))))
      refine Tm_suc (fun k => by rw [f_X3_iterate]) ?_
      refine Tm_oxc (c_nextMember20 (n := uN (L.1 2)) (pc := pc) p cs e6 (l3.trans h3) k1 k2 sb k3 k4 k5 hN k6 k7 k8) (fun q z => z.1) (fun q z => ?_)
      exact b22 _ _ _ z.2
    · obtain ⟨d', r', k1, k2, k3, k4, k45, k5⟩ := o71 e
      subst e
      subst k1
      obtain ⟨pd, es⟩ := Pre_dr (x := 1) (d' := d') (n := 1) p rfl rfl k2
      refine Tm_no (by decide) (Tm_no (by decide) (Tm_no (by decide) (Tm_no (by decide) (Tm_no (by decide) (Tm_no (by decide) (Tm_no (by decide) (Tm_yes rfl ?_)))))))
      refine Tm_suc (fun k => by rw [f_X3_iterate]) ?_
      refine Tm_op (c_pop (by omega) st1 st2.2) (fun q e => ?_)
      rw [e.1]
      refine Tm_op (c_assign (j := uN (σ.1 1901) + 4 + uN (L.1 2)) pd cs e6 ((Ty_v p (q := (uN (σ.1 1902) - 1)) (by omega) (by omega))) (WP_sl k3 sb k4)) (fun q z => ?_)
      obtain ⟨⟨σ1, K1, z1, z2, z3⟩, zf, _⟩ := z
      refine b22 _ _ _ (SpK_0 (P := fun K' => K' = Kw K (uN (σ.1 1901) + 4 + uN (L.1 2)) 1 none ∧ q.2.1 1813 = (uI σ 1902 (σ.1 1902 - 1)).1 1813) (r' := r') ⟨σ1, K1, z1, Go_t (Go_dr σ _) z2, z3⟩ (fun σ2 K2' ef pp hk => ?_) zf (by rw [hpc, epc]; exact k5))
      refine Pre_av pp k45 (fun i s q b => ?_) (fun i s q b => ?_)
      · rcases q with q | q
        · exact Or.inl q
        · right
          have e1 : i % 500000 = uN (L.1 2) := by omega
          rw [e1, hk.1, ef, Kw_i (Nat.le_refl _) (by omega)]
          exact ⟨k3, Mkk_n (by omega)⟩
      · rcases q with q | q
        · exact Or.inl q
        · exact absurd b (by unfold bsl; omega)
    · obtain ⟨d', r', k1, k2, k3, k4, k5, k55, k6⟩ := o72 e
      subst e
      subst k1
      refine Tm_no (by decide) (Tm_no (by decide) (Tm_no (by decide) (Tm_no (by decide) (Tm_no (by decide) (Tm_no (by decide) (Tm_no (by decide) (Tm_no (by decide) (Tm_yes rfl ?_))))))))
      refine Tm_suc (fun k => by rw [f_X3_iterate]) ?_
      refine Tm_oP eb ?_
      rw [l3']
      refine Tm_chk (u_in (by rw [e31, cr.2.1]; exact k3) (by rw [cr.2.1]; omega)) ?_
      rw [c31, cr.1]
      refine Tm_op (c_spread20 (n := uN (L.1 2)) (m := uN (tcC c (pc + 1))) p cs k2 k4 sb e6 rfl (by show ¬ L'.1 4 = 0; rw [l4]; decide) h13 k5) (fun q z => ?_)
      have bm := bt_m d' 1 r
      refine b22 _ _ _ (SpK_io (v := L.1 3 + 2) (r' := r') z.1 (fun σ2 K2' ef pp hk => ?_) z.2 (by rw [e32]; exact k6))
      refine Pre_av pp k55 (fun i s q b => ?_) (fun i s q b => ?_)
      · rcases q with q | q
        · exact Or.inl q
        · right
          have h0 := hk (i - 500000 - uN (L.1 2)) (by omega)
          have e1 : i % 500000 = i - 500000 := by unfold bsl at b; omega
          rw [e1, ef, show uN (σ.1 1901) + 4 + (i - 500000) = uN (σ.1 1901) + 4 + uN (L.1 2) + (i - 500000 - uN (L.1 2)) by omega, h0]
          exact ⟨by omega, Mkk_n (by omega)⟩
      · rcases q with q | q
        · exact Or.inl q
        · exact absurd b (by unfold bsl; omega)
    · obtain ⟨r', k1, k2, k3, k4, k5, k6, k7, k8⟩ := o73 e
      subst e
      refine Tm_no (by decide) (Tm_no (by decide) (Tm_no (by decide) (Tm_no (by decide) (Tm_no (by decide) (Tm_no (by decide) (Tm_no (by decide) (Tm_no (by decide) (Tm_no (by decide) ?_))))))))
      refine Tm_suc (fun k => by rw [f_X3_iterate]) ?_
      refine Tm_oP eb ?_
      rw [l3']
      refine Tm_chk (u_in (by rw [e31, cr.2.1]; omega) (by rw [cr.2.1]; omega)) ?_
      refine Tm_oP eb ?_
      refine Tm_chk (u_in (by rw [e32, cr.2.1]; exact k1) (by rw [cr.2.1]; omega)) ?_
      rw [c31, c32, cr.1]
      refine Tm_op (c_clearFor (n := uN (L.1 2)) (n2 := uN (tcC c (pc + 1))) (m := uN (tcC c (pc + 2))) p cs k2 sb k3 e6 k4 (by show uN (σ.1 1901 + 4 + tcC c (pc + 1)) = _; rw [u_add (by omega), e14]) rfl k5 k6) (fun q z => ?_)
      obtain ⟨K1, z1, z2, z3⟩ := z
      refine b22 _ _ _ (fl_go (σ' := uI q.2 1900 (L.1 3 + 3)) (Pre_sb z1 k7 (fun i s q => q)) z2 rfl (fun j hj => upd_other hj) ?_)
      show Nx c (uN (L.1 3 + 3)) u d r' rk
      rw [e33]
      exact k8
  refine Tm_suc (fun k => by rw [f_X3_iterate]) ?_
  refine Tm_no (by rw [h1, u_ltn (by rw [u_n (by omega)]; omega) (by decide), u_n (by omega)]; show ¬ op < 69; omega) ?_
  refine Tm_suc (fun k => by rw [f_X3_iterate]) ?_
  refine Tm_no (by show ¬ (1 : Int32) = 0; decide) ?_
  refine Tm_suc (fun k => by rw [f_X3_iterate]) ?_
  refine Tm_no (by show ¬ (1 : Int32) = 0; decide) ?_
  exact b7 _ h1 rfl rfl rfl rfl
theorem c_iterate (p : Pre c g l t K K2 K3 K4 B KB f0 u0 σ fs u d r pb nf nc sq) {pc op : Nat} (h64 : 64 ≤ op) (h73 : op ≤ 73) (h1 : L.1 1 = nI op) (h3 : L.1 3 = nI pc) (hp : pc + 1 ≤ tcN c) (hN : tcN c ≤ 36864) (hpc : σ.1 1900 = nI (pc + 1)) (hn : uN (L.1 2) < 200) (h13 : σ.1 1813 = 0) (ok : Ok4 c pc u d r rk op (uN (L.1 2))) : Tm (fun k => f_X3_iterate k 0 L σ) (IO c B KB f0 u0 σ (mu σ (qv nf sq rk))) := by
  by_cases e : op < 69
  · exact c_iterA p h64 e h1 h3 hp hN hpc hn h13 ok
  · exact c_iterB p (by omega) h73 h1 h3 hp hN hpc hn h13 ok
end CTJ
end JnS398
section JnS399
/-! The class: takeFrom. -/
section CTK
variable {g g' g2 : Nat → Prop} {l l' l2 : List Nat} {t t' t2 : Nat} {σ σ' σ2 : CS} {L : LV} {x y i : Int32} {M M' U U' : Nat → Int32} {K K' K2 K2' K3 K4 K4' KB : Nat → Option Int32} {c : Ct} {B f0 u0 : Nat} {fs : List FrT} {u d : Nat} {r r' : List Nat} {pb nf nc sq rk : Nat}
theorem c_takeFrom (p : Pre c g l t K K2 K3 K4 B KB f0 u0 σ fs u d r pb nf nc sq) {pc : Nat} (hd : 1 ≤ d) (h2 : L.1 2 = nI pc) (hp : pc + 1 < tcN c) (hN : tcN c ≤ 36864) (nE : Nx c (uN (nI pc + tcC c (pc + 1))) u (d + 1) r rk) (nS : NxS c (pc + 2) u (d + 1) r) : Tm (fun k => f_X3_takeFrom k 0 L σ) (fun q => q.1.1 = 0 ∧ IO c B KB f0 u0 σ (mu σ (qv nf sq rk)) ((0, 0), q.2.1, (q.2.2.1 + 0, q.2.2.2 + 0))) := by
  have mi := p.1
  have ty := p.2.1
  obtain ⟨st1, st2, st3⟩ := mi.2.1.1
  have ts := TyS_sp ty
  have u1 : uN (1 : Int32) = 1 := rfl
  have u2 : uN (2 : Int32) = 2 := rfl
  have ea : uN (σ.1 1902 - 1) = uN (σ.1 1902) - 1 := by rw [u_sub (by omega), u1]
  have c1 : (σ.1 1902 - 1).toNatClampNeg = uN (σ.1 1902) - 1 := by rw [u_cl (by omega), ea]
  have i1 : ¬ (σ.1 1902 - 1 < 0 ∨ sN σ 20 ≤ (σ.1 1902 - 1).toNatClampNeg) := u_in (by omega) (by omega)
  have kt : K (uN (σ.1 1902) - 1) = none := SL_top _ _ _ ty.1 _ (by omega) (by omega)
  have e2 : uN (L.1 2) = pc := by rw [h2, u_n (by omega)]
  have e21 : uN (L.1 2 + 1) = pc + 1 := by rw [u_inc (by omega), e2]
  have e22 : uN (L.1 2 + 2) = pc + 2 := by rw [u_add (by omega), e2, u2]
  have c21 : (L.1 2 + 1).toNatClampNeg = pc + 1 := by rw [u_cl (by omega)]; exact e21
  generalize hh : σ.2.2.1 20 (uN (σ.1 1902) - 1) = h
  have gh : Gv g h := by rw [← hh]; exact (Ty_v p (by omega) (by omega))
  have ll := lnC_lt (σ.2.2.1 3) h
  have b3 : ∀ L' : LV, Tm (fun k => f_X3_takeFrom k 3 L' σ) (fun q => q.1.1 = 0 ∧ IO c B KB f0 u0 σ (mu σ (qv nf sq rk)) ((0, 0), q.2.1, (q.2.2.1 + 0, q.2.2.2 + 0))) := by
    intro L'
    refine Tm_suc (fun k => by rw [f_X3_takeFrom]) ?_
    refine Tm_op c_fail (fun q e => ?_)
    rw [e]
    refine Tm_some ⟨rfl, ha_fin p rfl (fun j hj => ?_) rfl (f13 (by decide))⟩
    show upd (upd σ.1 1813 _) 1812 1 j = _
    rw [upd_other (by omega), upd_other (by omega)]
  have b6 : ∀ L' : LV, L'.1 2 = L.1 2 → L'.1 3 = h → L'.1 101 = h → L'.1 103 = σ.1 1902 - 1 → (kdC (σ.2.2.1 3) h = 4 ∨ kdC (σ.2.2.1 3) h = 5 ∨ kdC (σ.2.2.1 3) h = 6) → 1 ≤ lnC (σ.2.2.1 3) h → uN (L'.1 100) < lnC (σ.2.2.1 3) h → Tm (fun k => f_X3_takeFrom k 6 L' σ) (fun q => q.1.1 = 0 ∧ IO c B KB f0 u0 σ (mu σ (qv nf sq rk)) ((0, 0), q.2.1, (q.2.2.1 + 0, q.2.2.2 + 0))) := by
    intro L' l2 l3 l101 l103 kk n1 il
    refine Tm_suc (fun k => by rw [f_X3_takeFrom]) ?_
    refine Tm_op (c_taken mi.1 (by show Gv g (L'.1 101); rw [l101]; exact gh) (by
      show (kdC (σ.2.2.1 3) (L'.1 101) = 4 ∧ uN (L'.1 100) < lnC (σ.2.2.1 3) (L'.1 101)) ∨ 5 ≤ kdC (σ.2.2.1 3) (L'.1 101)
      rw [l101]
      rcases kk with z | z | z
      · exact Or.inl ⟨z, il⟩
      · exact Or.inr (by omega)
      · exact Or.inr (by omega))) (fun q z => ?_)
    have e : q.2 = σ := z.1
    rw [e, l103]
    refine Tm_chk i1 ?_
    rw [c1, l2]
    obtain ⟨p1, g1⟩ := Pre_s p kt z.2
    have p2 := Pre_i (j := 1900) p1 (by decide) (L.1 2 + 2)
    refine Tm_op (c_remainder p2.1.1 (by show Gv g (L'.1 3); rw [l3]; exact gh) (by show kdC (σ.2.2.1 3) (L'.1 3) = 4 ∨ kdC (σ.2.2.1 3) (L'.1 3) = 5 ∨ kdC (σ.2.2.1 3) (L'.1 3) = 6; rw [l3]; exact kk) (by show 1 ≤ lnC (σ.2.2.1 3) (L'.1 3); rw [l3]; exact n1)) (fun q3 z3 => ?_)
    obtain ⟨g', l', t', ga, v⟩ := z3
    refine Tm_oxc (giX (Pre_Ga p2 ga) (Md_t (Md_t (Md_A σ (by decide) (uN (σ.1 1902) - 1) q.1) (Md_i _ (by decide) (L.1 2 + 2))) (Md_S (Sm_A ga.2.2.2.2))) (by rw [ga.2.2.2.2.2.2.2]; rfl) (ga.2.2.2.2.1 1905 (by decide)) (ga.2.2.2.2.1 1814 (by decide)) (v.elim id Gv_rw) (by
      rw [ga.2.2.2.2.1 1900 (by decide)]
      show NxS c (uN (L.1 2 + 2)) u (d + 1) r
      rw [e22]; exact nS) (qv nf sq rk)) (fun q4 z4 => z4.1) (fun q4 z4 => ?_)
    exact Tm_some ⟨rfl, z4.2⟩
  have b2 : ∀ L' : LV, L'.1 2 = L.1 2 → L'.1 3 = h → (kdC (σ.2.2.1 3) h = 4 ∨ kdC (σ.2.2.1 3) h = 5 ∨ kdC (σ.2.2.1 3) h = 6) → Tm (fun k => f_X3_takeFrom k 2 L' σ) (fun q => q.1.1 = 0 ∧ IO c B KB f0 u0 σ (mu σ (qv nf sq rk)) ((0, 0), q.2.1, (q.2.2.1 + 0, q.2.2.2 + 0))) := by
    intro L' l2 l3 kk
    refine Tm_suc (fun k => by rw [f_X3_takeFrom]) ?_
    refine Tm_op (c_length mi.1 (by show Gv g (L'.1 3); rw [l3]; exact gh)) (fun q z => ?_)
    rw [z]
    have e0 : (lI lZ 1 (L'.1 3)).1 1 = h := l3
    rw [e0]
    refine Tm_ite (fun z0 => ?_) (fun z0 => ?_)
    · refine Tm_chk i1 ?_
      obtain ⟨p1, g1⟩ := Pre_s p kt (Gv_om g)
      have st' := p1.1.2.1.1
      show Tm (fun k => ox (f_X3_push k 0 (lI lZ 1 (-2147483648)) (uA σ 20 (σ.1 1902 - 1).toNatClampNeg (-2147483648))) (fun r4 => oP (sPr r4.2.1) (fun b5 => if ¬ (L'.1 2 + 1 < 0 ∨ sN r4.2.1 (pR0 (sKd r4.2.1 b5)) ≤ (L'.1 2 + 1).toNatClampNeg) then some ((0, 0), uI r4.2.1 1900 (L'.1 2 + r4.2.1.2.2.1 (pR0 (sKd r4.2.1 b5)) (L'.1 2 + 1).toNatClampNeg), (0, 0)) else none))) _
      rw [c1, l2]
      refine Tm_oxc (c_push st'.1 st'.2.1) (fun q z => by rw [z.1]) (fun q5 z5 => ?_)
      have ct := CtL_M p1.1.2.2.1 (Md_M (Md_S z5.2.2.1))
      have ct2 := ct
      obtain ⟨b, eb, _⟩ := ct2
      have cr := Ct_row ct eb
      refine Tm_oP eb ?_
      refine Tm_chk (u_in (by rw [e21, cr.2.1]; exact hp) (by rw [cr.2.1]; omega)) ?_
      rw [c21, cr.1]
      refine Tm_some ⟨rfl, ?_⟩
      rw [← mu_e g1.2.2.2.1 g1.2.2.2.2.1]
      have zz := pu_fin (q := q5) (rk := rk) (σ' := uI q5.2.1 1900 (L.1 2 + tcC c (pc + 1))) p1 (Gv_om g) z5 rfl (fun j hj => upd_other hj) (by
        show Nx c (uN (L.1 2 + tcC c (pc + 1))) u (d + 1) r rk
        rw [h2]
        exact nE)
      exact IO_g g1 zz
    · have n1 : 1 ≤ lnC (σ.2.2.1 3) h := by
        rcases Nat.eq_zero_or_pos (lnC (σ.2.2.1 3) h) with z | z
        · exact absurd (by show nI (lnC (σ.2.2.1 3) h) = 0; rw [z]; rfl) z0
        · exact z
      refine Tm_suc (fun k => by rw [f_X3_takeFrom]) ?_
      refine Tm_ite (fun _ => ?_) (fun _ => ?_)
      · refine b6 _ l2 l3 l3 rfl kk n1 ?_
        show uN (nI (lnC (σ.2.2.1 3) h) - 1) < _
        rw [u_sub (by rw [u_n (by omega), u1]; exact n1), u_n (by omega), u1]
        omega
      · refine Tm_suc (fun k => by rw [f_X3_takeFrom]) ?_
        exact b6 _ l2 l3 l3 rfl kk n1 n1
  refine Tm_suc (fun k => by rw [f_X3_takeFrom]) ?_
  refine Tm_chk i1 ?_
  rw [c1, hh]
  refine Tm_op (c_kind mi.1 gh) (fun q z => ?_)
  rw [z]
  have e0 : (lI lZ 1 h).1 1 = h := rfl
  rw [e0]
  refine Tm_ite (fun _ => ?_) (fun _ => ?_)
  · refine Tm_ite (fun k6 => ?_) (fun _ => b3 _)
    exact b2 _ rfl rfl (Or.inr (Or.inr (kd_n (n := 6) (by decide) k6)))
  · refine Tm_suc (fun k => by rw [f_X3_takeFrom]) ?_
    refine Tm_ite (fun k5 => ?_) (fun _ => Tm_ite (fun k4 => ?_) (fun _ => b3 _))
    · exact b2 _ rfl rfl (Or.inr (Or.inl (kd_n (n := 5) (by decide) k5)))
    · exact b2 _ rfl rfl (Or.inl (kd_n (n := 4) (by decide) k4))
end CTK
end JnS399
section JnS400
/-! The class: a fold goes on. -/
section CTL
variable {g g' g2 : Nat → Prop} {l l' l2 : List Nat} {t t' t2 : Nat} {σ σ' σ2 : CS} {L : LV} {x y i : Int32} {M M' U U' : Nat → Int32} {K K' K2 K2' K3 K4 K4' KB : Nat → Option Int32} {c : Ct} {B f0 u0 : Nat} {fs : List FrT} {u d : Nat} {r r' : List Nat} {pb nf nc sq rk : Nat}
theorem fo_n {dd : Nat} {r0 : List Nat} (p : Pre c g l t K K2 K3 K4 B KB f0 u0 σ fs u d r pb nf nc sq) (hd : d = 0 ∧ r = (750000 + dd) :: r0 ∧ 2 ≤ dd ∧ dd < 250000) (k5 : 5 ≤ kdC (σ.2.2.1 3) (σ.2.2.1 20 (uN (σ.1 1902) - 3))) (kr : 2147483648 ≤ uN (σ.2.2.1 20 (uN (σ.1 1902) - 1))) (tD : tcD c (uN (σ.1 1900)) = some (u + 100, d, r, rk)) {q0 : Nat} (hq : qv nf sq (rk - min (uN (σ.2.2.1 20 (uN (σ.1 1902) - 1)) % 268435456) 1000) < q0) : IO c B KB f0 u0 σ (mu σ q0) ((0, 0), σ, (0, 0)) := by
  obtain ⟨mi, ty, w, h0, bo⟩ := p
  refine ⟨rfl, CoP_0 rfl, MFr_r σ, fun _ _ _ _ _ => rfl, g, l, t, K, K2, K3, K4, mi, fun _ => ⟨_, ⟨w, u, d, r, rk, fs, pb, nf, nc, sq, Or.inr ⟨dd, r0, hd, ty, tD, ⟨k5, kr⟩, rfl⟩⟩, ?_⟩, fun z => absurd h0 z⟩
  unfold qv at hq
  unfold mu
  show uN (σ.1 1814) * (60002 * QK) + (60000 - uN (σ.1 1905)) * QK + ((20 - nf) * (RK + 1) + sq + (rk - min (uN (σ.2.2.1 20 (uN (σ.1 1902) - 1)) % 268435456) 1000)) < _
  omega
theorem fo_s {dd : Nat} {r0 : List Nat} (p : Pre c g l t K K2 K3 K4 B KB f0 u0 σ fs u d r pb nf nc sq) (hd : d = 0 ∧ r = (750000 + dd) :: r0 ∧ 2 ≤ dd ∧ dd < 250000) (k5 : 5 ≤ kdC (σ.2.2.1 3) (σ.2.2.1 20 (uN (σ.1 1902) - 3))) (kr : 2147483648 ≤ uN (σ.2.2.1 20 (uN (σ.1 1902) - 1))) (tD : tcD c (uN (σ.1 1900)) = some (u + 100, d, r, rk)) (hr : rk ≤ 72 * (RK + 1)) {n : Int32} (n1 : 1 ≤ uN n) (n2 : uN n < 1024) (q0 : Nat) : IO c B KB f0 u0 σ (mu σ q0) ((0, 0), spS σ n, (0, 0)) := by
  obtain ⟨mi, ty, w, h0, bo⟩ := p
  have s := spS_s σ n
  have sm := spS_m σ n
  have e02 := s.2.2
  have mt := MIn_fl (σ' := spS σ n) mi s.1 (fun j hj => by
    by_cases z : j = 1
    · rw [z]; exact s.2.1
    by_cases z2 : j = 404 ∨ j = 1203
    · unfold spS
      rcases z2 with e | e <;> subst e <;> split <;> rfl
    exact sm.1 j (by omega)) (by rw [e02]; exact mi.2.2.2.2.2.2.1.2) (by rw [e02]; exact Nat.le_refl _)
  refine ⟨rfl, CoP_0 (by rw [s.1]), Md_M mt.2, fun _ => Md_E mt.2, g, l, t, K, K2, K3, K4, mt.1, fun z => ?_, fun z => ?_⟩
  rotate_left
  · rcases spS_w (σ := σ) n1 n2 w with y | y
    · exact Or.inl y.2
    · exact absurd (y.1.trans h0) z
  have z0 : (spS σ n).1 1812 = 0 := z
  have ww := spS_w (σ := σ) n1 n2 w
  rcases ww with ww | ww
  · rw [ww.1] at z0
    exact absurd z0 (by decide)
  · have ty' : TyS c K K4 f0 u0 (spS σ n) fs u d r pb nf nc sq := TyS_k ty ⟨sm.1 1901 (by decide), sm.1 1815 (by decide), sm.1 1811 (by decide), sm.1 1908 (by decide)⟩ (by rw [e02]; exact ty.1) (fun _ _ => rfl) ty.2.2.1 ty.2.2.2.2.2.2.2.2
    refine ⟨_, ⟨ww.2.2, u, d, r, rk, fs, pb, nf, nc, sq, Or.inr ⟨dd, r0, hd, ty', by show tcD c (uN ((spS σ n).1 1900)) = _; rw [sm.1 1900 (by decide)]; exact tD, ⟨by show 5 ≤ kdC ((spS σ n).2.2.1 3) ((spS σ n).2.2.1 20 (uN ((spS σ n).1 1902) - 3)); rw [e02, s.1]; exact k5, by show 2147483648 ≤ uN ((spS σ n).2.2.1 20 (uN ((spS σ n).1 1902) - 1)); rw [e02, s.1]; exact kr⟩, rfl⟩⟩, ?_⟩
    have z9 := qv_lt (rk := rk - min (uN ((spS σ n).2.2.1 20 (uN ((spS σ n).1 1902) - 1)) % 268435456) 1000) ty (by omega)
    unfold qv at z9
    unfold mu
    have e4 : (spS σ n).1 1814 = σ.1 1814 := sm.1 1814 (by decide)
    show uN ((spS σ n).1 1814) * (60002 * QK) + (60000 - uN ((spS σ n).1 1905)) * QK + ((20 - nf) * (RK + 1) + sq + (rk - min (uN ((spS σ n).2.2.1 20 (uN ((spS σ n).1 1902) - 1)) % 268435456) 1000)) < _
    rw [e4]
    have e : (60000 - uN ((spS σ n).1 1905) + 1) * QK ≤ (60000 - uN (σ.1 1905)) * QK := Nat.mul_le_mul_right _ (by omega)
    rw [Nat.add_mul, Nat.one_mul] at e
    omega
theorem c_foldOn (p : Pre c g l t K K2 K3 K4 B KB f0 u0 σ fs u d r pb nf nc sq) {pc d' : Nat} {r0 : List Nat} (hd : d = 0 ∧ r = (750000 + (d' + 2)) :: r0 ∧ 2 ≤ d' + 2 ∧ d' + 2 < 250000) (k5 : 5 ≤ kdC (σ.2.2.1 3) (σ.2.2.1 20 (uN (σ.1 1902) - 3))) (h1 : L.1 1 = 113) (h3 : L.1 3 = nI pc) (hp : pc + 1 ≤ tcN c) (hN : tcN c ≤ 36864) (hpc : σ.1 1900 = nI (pc + 1)) (tD : tcD c pc = some (u + 100, d, r, rk)) (hr : 1000 ≤ rk ∧ rk ≤ 72 * (RK + 1)) (nS : NxS c (pc + 1) u (d' + 1) r0) : Tm (fun k => f_X3_foldOn k 0 L σ) (IO c B KB f0 u0 σ (mu σ (qv nf sq (rk - min (uN (σ.2.2.1 20 (uN (σ.1 1902) - 1)) % 268435456) 1000)))) := by
  have mi := p.1
  have ty := p.2.1
  obtain ⟨st1, st2, st3⟩ := mi.2.1.1
  have ts := TyS_sp ty
  have tc := SL_tc hd.2.2.2 (show SL K _ _ 0 ((750000 + (d' + 2)) :: r0) by have z := ty.1; rw [hd.1, hd.2.1] at z; exact z)
  have tc1 := tc.1
  have kn : ∀ q, uN (σ.1 1902) - 1 ≤ q + (d' + 2) → q < uN (σ.1 1902) - 1 → K q = none := fun q a b => SL_top _ _ _ tc.2.1 q a b
  have u1 : uN (1 : Int32) = 1 := rfl
  have u2 : uN (2 : Int32) = 2 := rfl
  have u3 : uN (3 : Int32) = 3 := rfl
  have ea : uN (σ.1 1902 - 1) = uN (σ.1 1902) - 1 := by rw [u_sub (by omega), u1]
  have ea2 : uN (σ.1 1902 - 2) = uN (σ.1 1902) - 2 := by rw [u_sub (by omega), u2]
  have ea3 : uN (σ.1 1902 - 3) = uN (σ.1 1902) - 3 := by rw [u_sub (by omega), u3]
  have c1 : (σ.1 1902 - 1).toNatClampNeg = uN (σ.1 1902) - 1 := by rw [u_cl (by omega), ea]
  have c2 : (σ.1 1902 - 2).toNatClampNeg = uN (σ.1 1902) - 2 := by rw [u_cl (by omega), ea2]
  have c3 : (σ.1 1902 - 3).toNatClampNeg = uN (σ.1 1902) - 3 := by rw [u_cl (by omega), ea3]
  have i1 : ¬ (σ.1 1902 - 1 < 0 ∨ sN σ 20 ≤ (σ.1 1902 - 1).toNatClampNeg) := u_in (by omega) (by omega)
  have i2 : ¬ (σ.1 1902 - 2 < 0 ∨ sN σ 20 ≤ (σ.1 1902 - 2).toNatClampNeg) := u_in (by omega) (by omega)
  have i3 : ¬ (σ.1 1902 - 3 < 0 ∨ sN σ 20 ≤ (σ.1 1902 - 3).toNatClampNeg) := u_in (by omega) (by omega)
  have kt1 : K (uN (σ.1 1902) - 1) = some mkC := tc.2.2
  have kt2 : K (uN (σ.1 1902) - 2) = none := kn _ (by omega) (by omega)
  have e3 : uN (L.1 3) = pc := by rw [h3, u_n (by omega)]
  have g2x : Gv g (σ.2.2.1 20 (uN (σ.1 1902) - 2)) := (st3 _ (by omega)).2.1 kt2
  have g3x : Gv g (σ.2.2.1 20 (uN (σ.1 1902) - 3)) := (st3 _ (by omega)).2.1 (kn _ (by omega) (by omega))
  generalize hn : uN (σ.2.2.1 20 (uN (σ.1 1902) - 1)) % 268435456 = nx
  have nl : nx < 268435456 := by omega
  have sq5 := Sq5_k (σ := σ) g3x k5
  have b10 : ∀ (σ' : CS) (L' : LV) (Q : RS → Prop), Q ((0, 0), σ', (0, 0)) → Tm (fun k => f_X3_foldOn k 10 L' σ') Q := by
    intro σ' L' Q h
    refine Tm_suc (fun k => by rw [f_X3_foldOn]) ?_
    exact Tm_some h
  have b4 : nx < lnC (σ.2.2.1 3) (σ.2.2.1 20 (uN (σ.1 1902) - 3)) → ∀ (L' : LV) (g' : Nat → Prop) (l' : List Nat) (t' : Nat) (τ : CS), Ga g t σ g' l' t' τ → (Gv g' (L'.1 100) ∨ Rw (L'.1 100)) → L'.1 3 = L.1 3 → L'.1 4 = nI nx → Tm (fun k => f_X3_foldOn k 4 L' τ) (IO c B KB f0 u0 σ (mu σ (qv nf sq (rk - min nx 1000)))) := by
    intro hl L' g' l' t' τ ga v l3 l4
    have pt := Pre_Ga p ga
    have fe : ∀ j, ¬ (j = 1 ∨ j = 404 ∨ j = 1203) → τ.1 j = σ.1 j := fun j hj => ga.2.2.2.2.1 j (by omega)
    have eN : τ.2.2.2.2.1 = σ.2.2.2.2.1 := by rw [ga.2.2.2.2.2.2.2]
    have gG : Go c u0 σ τ := Go_Md (Md_S (Sm_A ga.2.2.2.2)) eN (fe 1905 (by decide)) (fe 1900 (by decide))
    have n9 : nx < 999 := by
      have lr : lnC (σ.2.2.1 3) (σ.2.2.1 20 (uN (σ.1 1902) - 3)) ≤ 999 := by
        by_cases k7 : kdC (σ.2.2.1 3) (σ.2.2.1 20 (uN (σ.1 1902) - 3)) = 7
        · by_cases lt : uN (σ.2.2.1 20 (uN (σ.1 1902) - 3)) < 2147483648
          · have cg := (HQ_c mi.1 (Gv_c g3x lt).2).2.2.2.2.2.2.1
            unfold kdC at k7
            rw [if_pos lt] at k7
            omega
          · unfold lnC
            rw [if_neg lt]
            split <;> omega
        · exact (row_c mi.1 g3x k5 k7).2
      omega
    refine Tm_suc (fun k => by rw [f_X3_foldOn]) ?_
    refine Tm_op c_isError (fun q z => ?_)
    have e : q.2 = τ := z.1.1
    rw [e]
    refine Tm_ite (fun z0 => ?_) (fun z0 => ?_)
    · have nr : ¬ Rw (L'.1 100) := z.2.1 z0
      have gv : Gv g' (L'.1 100) := v.resolve_right nr
      have k20 : τ.1 1902 = σ.1 1902 := fe 1902 (by decide)
      have s20 : sN τ 20 = sN σ 20 := by show τ.2.2.2.2.1 20 = _; rw [eN]
      obtain ⟨p1, g1⟩ := Pre_s pt kt2 gv
      obtain ⟨p2, g2'⟩ := Pre_sc (x := rwN (nx + 1)) p1 kt1 (Gw_rr (rwN_r (by omega)))
      have p3 := Pre_i (j := 1900) p2 (by decide) (L.1 3)
      have r20 : τ.2.2.1 20 = σ.2.2.1 20 := ga.2.2.2.2.2.2.1 20 (by decide)
      have x3 : (uI (uA (uA τ 20 (uN (σ.1 1902) - 2) (L'.1 100)) 20 (uN (σ.1 1902) - 1) (rwN (nx + 1))) 1900 (L.1 3)).2.2.1 20 (uN ((uI (uA (uA τ 20 (uN (σ.1 1902) - 2) (L'.1 100)) 20 (uN (σ.1 1902) - 1) (rwN (nx + 1))) 1900 (L.1 3)).1 1902) - 3) = σ.2.2.1 20 (uN (σ.1 1902) - 3) := by
        show upd (upd (τ.2.2.1 20) _ _) _ _ (uN (τ.1 1902) - 3) = _
        rw [k20, upd_other (by omega), upd_other (by omega), r20]
      have x1 : (uI (uA (uA τ 20 (uN (σ.1 1902) - 2) (L'.1 100)) 20 (uN (σ.1 1902) - 1) (rwN (nx + 1))) 1900 (L.1 3)).2.2.1 20 (uN ((uI (uA (uA τ 20 (uN (σ.1 1902) - 2) (L'.1 100)) 20 (uN (σ.1 1902) - 1) (rwN (nx + 1))) 1900 (L.1 3)).1 1902) - 1) = rwN (nx + 1) := by
        show upd (upd (τ.2.2.1 20) _ _) _ _ (uN (τ.1 1902) - 1) = _
        rw [k20, upd_same]
      have k5' : 5 ≤ kdC ((uI (uA (uA τ 20 (uN (σ.1 1902) - 2) (L'.1 100)) 20 (uN (σ.1 1902) - 1) (rwN (nx + 1))) 1900 (L.1 3)).2.2.1 3) ((uI (uA (uA τ 20 (uN (σ.1 1902) - 2) (L'.1 100)) 20 (uN (σ.1 1902) - 1) (rwN (nx + 1))) 1900 (L.1 3)).2.2.1 20 (uN ((uI (uA (uA τ 20 (uN (σ.1 1902) - 2) (L'.1 100)) 20 (uN (σ.1 1902) - 1) (rwN (nx + 1))) 1900 (L.1 3)).1 1902) - 3)) := by
        rw [x3]
        show 5 ≤ kdC (τ.2.2.1 3) _
        rw [kdC_ga mi.1 ga g3x]
        exact k5
      have md3 : Md σ (uI (uA (uA τ 20 (uN (σ.1 1902) - 2) (L'.1 100)) 20 (uN (σ.1 1902) - 1) (rwN (nx + 1))) 1900 (L.1 3)) := Md_t (Md_S (Sm_A ga.2.2.2.2)) (Md_t (Md_t (Md_A τ (by decide) _ _) (Md_A _ (by decide) _ _)) (Md_i _ (by decide) _))
      have tD3 : tcD c (uN ((uI (uA (uA τ 20 (uN (σ.1 1902) - 2) (L'.1 100)) 20 (uN (σ.1 1902) - 1) (rwN (nx + 1))) 1900 (L.1 3)).1 1900)) = some (u + 100, d, r, rk) := by
        show tcD c (uN (L.1 3)) = _
        rw [e3]; exact tD
      generalize hρ : uI (uA (uA τ 20 (uN (σ.1 1902) - 2) (L'.1 100)) 20 (uN (σ.1 1902) - 1) (rwN (nx + 1))) 1900 (L.1 3) = ρ at *
      have es : ρ.2.2.2.2.1 = σ.2.2.2.2.1 := by rw [← hρ]; exact eN
      have w5 : ρ.1 1905 = σ.1 1905 := by rw [← hρ]; exact fe 1905 (by decide)
      have w4 : ρ.1 1814 = σ.1 1814 := by rw [← hρ]; exact fe 1814 (by decide)
      refine Tm_suc (fun k => by rw [f_X3_foldOn]) ?_
      rw [k20]
      refine Tm_chk (by rw [s20]; exact i2) ?_
      refine Tm_op c_raw (fun q2 z2 => ?_)
      rw [z2]
      have e41 : uN (L'.1 4 + 1) % 268435456 = nx + 1 := by rw [l4, u_inc (by rw [u_n (by omega)]; omega), u_n (by omega)]; omega
      show Tm (fun k => if ¬ (τ.1 1902 - 1 < 0 ∨ sN τ 20 ≤ (τ.1 1902 - 1).toNatClampNeg) then f_X3_foldOn k 9 (lI L' 8 (L'.1 100)) (uA (uA τ 20 (σ.1 1902 - 2).toNatClampNeg (L'.1 100)) 20 (τ.1 1902 - 1).toNatClampNeg (rwN (uN (L'.1 4 + 1) % 268435456))) else none) _
      rw [k20]
      refine Tm_chk (by rw [s20]; exact i1) ?_
      rw [c1, c2, e41]
      refine Tm_suc (fun k => by rw [f_X3_foldOn]) ?_
      have l3' : (lI L' 8 (L'.1 100)).1 3 = L.1 3 := l3
      rw [l3', hρ]
      refine Tm_ite (fun _ => ?_) (fun _ => ?_)
      · refine b10 _ _ _ ?_
        rw [← mu_e w5 w4]
        refine IO_b md3 es (fo_n p3 hd k5' (by rw [x1, rwN_u (by omega)]; omega) tD3 ?_)
        rw [x1, unr (by omega)]
        unfold qv
        omega
      · refine Tm_op (c_size1 p3.1.1 gv) (fun q3 z3 => ?_)
        have e3' : q3.2 = ρ := z3.1
        rw [e3']
        refine Tm_op c_spend (fun q4 z4 => ?_)
        rw [z4]
        refine b10 _ _ _ ?_
        rw [← mu_e w5 w4]
        exact IO_b md3 es (fo_s p3 hd k5' (by rw [x1, rwN_u (by omega)]; omega) tD3 hr.2 z3.2.1 z3.2.2 _)
    · refine Tm_op c_fail (fun q3 e3' => ?_)
      rw [e3']
      have er : Rr (L'.1 100) := by
        rcases Nat.lt_or_ge (uN (L'.1 100)) 4026531840 with y | y
        · exact absurd (z.2.2.2 (fun z => by have z' : 4026531840 ≤ uN (L'.1 100) := z; omega)) z0
        · exact y
      refine Tm_some (ha_go pt gG rfl (fun j hj => ?_) rfl (f13 (nz_15 (er_of v er))))
      show upd (upd τ.1 1813 _) 1812 1 j = _
      rw [upd_other (by omega), upd_other (by omega)]
  refine Tm_suc (fun k => by rw [f_X3_foldOn]) ?_
  refine Tm_no (by rw [h1]; decide) ?_
  refine Tm_suc (fun k => by rw [f_X3_foldOn]) ?_
  refine Tm_chk i1 ?_
  rw [c1]
  refine Tm_op c_unraw (fun q z => ?_)
  rw [z]
  refine Tm_chk i2 ?_
  refine Tm_chk i3 ?_
  rw [c2, c3]
  refine Tm_op (c_length mi.1 g3x) (fun q2 z2 => ?_)
  rw [z2]
  have ll := lnC_lt (σ.2.2.1 3) (σ.2.2.1 20 (uN (σ.1 1902) - 3))
  have en : nI (uN ((lI lZ 0 (σ.2.2.1 20 (uN (σ.1 1902) - 1))).1 0) % 268435456) = nI nx := by rw [← hn]; rfl
  rw [en]
  have el : (lI lZ 1 (σ.2.2.1 20 (uN (σ.1 1902) - 3))).1 1 = σ.2.2.1 20 (uN (σ.1 1902) - 3) := rfl
  rw [el]
  refine Tm_ite (fun cl => ?_) (fun _ => ?_)
  · have cl' : nI nx < nI (lnC (σ.2.2.1 3) (σ.2.2.1 20 (uN (σ.1 1902) - 3))) := cl
    rw [u_ltn (by rw [u_n (by omega)]; omega) (by rw [u_n (by omega)]; omega), u_n (by omega), u_n (by omega)] at cl'
    have gr : Ga g t σ g l t σ := Ga_X mi.1 (AXf_r σ)
    have b8 : ∀ L' : LV, Gv g (L'.1 101) → Gv g (L'.1 102) → L'.1 3 = L.1 3 → L'.1 4 = nI nx → Tm (fun k => f_X3_foldOn k 8 L' σ) (IO c B KB f0 u0 σ (mu σ (qv nf sq (rk - min nx 1000)))) := by
      intro L' ga gb l3 l4
      refine Tm_suc (fun k => by rw [f_X3_foldOn]) ?_
      refine Tm_op (c_larger mi.1 gb ga) (fun q z => ?_)
      have e : q.2 = σ := z.1
      rw [e]
      exact b4 cl' _ g l t σ gr z.2 l3 l4
    refine Tm_suc (fun k => by rw [f_X3_foldOn]) ?_
    refine Tm_op (c_member mi.1 sq5.1 sq5.2) (fun q3 z3 => ?_)
    rw [z3]
    have gm := mbC_g (y := nI nx) mi.1 sq5.1 sq5.2
    refine Tm_ite (fun _ => ?_) (fun _ => ?_)
    · refine Tm_op (c_sum mi.1 g2x gm) (fun q4 z4 => ?_)
      obtain ⟨g', l', t', ga, v⟩ := z4
      exact b4 cl' _ g' l' t' q4.2 ga v rfl rfl
    · refine Tm_suc (fun k => by rw [f_X3_foldOn]) ?_
      refine Tm_ite (fun _ => ?_) (fun _ => ?_)
      · refine Tm_op (c_productA mi.1 g2x gm) (fun q4 z4 => ?_)
        obtain ⟨g', l', t', ga, v⟩ := z4
        exact b4 cl' _ g' l' t' q4.2 ga v rfl rfl
      · refine Tm_suc (fun k => by rw [f_X3_foldOn]) ?_
        refine Tm_ite (fun _ => ?_) (fun _ => ?_)
        · exact b8 _ gm g2x rfl rfl
        · refine Tm_suc (fun k => by rw [f_X3_foldOn]) ?_
          exact b8 _ gm g2x rfl rfl
  · obtain ⟨pd, es⟩ := Pre_dp (x := 2) (d' := d' + 1) (r' := r0) p (by
      rw [hd.1, hd.2.1]
      refine ⟨fun K lo hi h => ?_, fun K pb m h => h.2 (by unfold bsl; omega)⟩
      have z := SL_tc hd.2.2.2 h
      have y := SL_pop r0 (hi - 1) (d' + 1) 1 z.2.1
      exact ⟨by show 2 ≤ hi; omega, by show SL K lo (hi - 2) (d' + 1) r0; rw [show hi - 2 = hi - 1 - 1 by omega]; exact y⟩) nS.choose_spec.2.2
    refine Tm_op (reX pd (by omega) (Md_i σ (by decide) _) rfl rfl rfl g2x (by
      show NxS c (uN (σ.1 1900)) u (d' + 1) r0
      rw [hpc, u_n (by omega)]; exact nS) (qv nf sq (rk - min nx 1000))) (fun q3 z3 => ?_)
    exact Tm_some z3
end CTL
end JnS400
section JnS401
/-! The class: two values pushed; fold. -/
section CTM
variable {g g' g2 : Nat → Prop} {l l' l2 : List Nat} {t t' t2 : Nat} {σ σ' σ2 : CS} {L : LV} {x y i : Int32} {M M' U U' : Nat → Int32} {K K' K2 K2' K3 K4 K4' KB : Nat → Option Int32} {c : Ct} {B f0 u0 : Nat} {fs : List FrT} {u d : Nat} {r r' : List Nat} {pb nf nc sq rk : Nat}
/-- a value pushed, pinned or not -/
theorem pu_MK (mi : MIn c g l t K K2 K3 K4 B KB σ) {mk : Option Int32} (hm : (mk = none ∧ Gv g x) ∨ (mk = some x ∧ Rr x) ∨ (mk = some mkC ∧ Gw g x)) {q : RS} (h : PuO σ x 1 q) : MIn c g l t (Kw K (uN (σ.1 1902)) 1 mk) K2 K3 K4 B KB q.2.1 ∧ Md σ q.2.1 := by
  obtain ⟨st1, st2, st3⟩ := mi.2.1.1
  obtain ⟨h1, h2, h3, h4, h5, h6, h7⟩ := h
  have md : Md σ q.2.1 := Md_S h3
  have hq : HQ g l t q.2.1 := HQ_fs mi.1 h4.1 h4.2 (fun k hk => h3.2.2.2.1.1 k hk)
  have b := mi.2.2.2.2.2.2.1.2
  have e23 : q.2.1.2.2.1 23 = σ.2.2.1 23 := h3.2.2.1 23 (by decide)
  have r3 : q.2.1.2.2.1 3 = σ.2.2.1 3 := h4.2
  have kb : ∀ j, j < B → Kw K (uN (σ.1 1902)) 1 mk j = KB j := fun j hj => by rw [Kw_o (Or.inl (by omega))]; exact mi.2.2.2.2.2.1 j hj
  refine ⟨?_, md⟩
  rcases h7 with ⟨a1, a2, a3, a4, a5, a6⟩ | ⟨a1, a2, a3, a4⟩
  · have rw1 : Rwk g (q.2.1.2.2.1 3) (Kw K (uN (σ.1 1902)) 1 mk) (q.2.1.2.2.1 20) (uN (q.2.1.1 1902)) := by
      rw [a1, r3]
      intro j hj
      rcases Nat.lt_or_ge j (uN (σ.1 1902)) with z | z
      · rw [h6 j z, Kw_o (Or.inl z)]
        exact st3 j z
      · rw [a3 j z hj, Kw_i z hj]
        rcases hm with m | m | m
        · rw [m.1]; exact Rwn m.2
        · rw [m.1]; exact Rwp m.2
        · rw [m.1]; exact Rwc m.2
    have v := VI_20 mi.2.1 md e23 ⟨fun _ z => z, fun p _ => by rw [r3]⟩ (by rw [a1]; exact a2) h5 rw1
    exact MIn_d mi md hq v kb (by rw [a1]; omega)
  · have rw1 : Rwk g (q.2.1.2.2.1 3) (Kw K (uN (σ.1 1902)) 1 mk) (q.2.1.2.2.1 20) (uN (q.2.1.1 1902)) := by
      rw [a1, r3]
      intro j hj
      rw [h6 j hj, Kw_o (Or.inl hj)]
      exact st3 j hj
    have v := VI_20 mi.2.1 md e23 ⟨fun _ z => z, fun p _ => by rw [r3]⟩ (by rw [a1]; exact a2) h5 rw1
    exact MIn_d mi md hq v kb (by rw [a1]; exact b)
/-- two values pushed -/
theorem pu_2 (mi : MIn c g l t K K2 K3 K4 B KB σ) {mk mk2 : Option Int32} (h0 : σ.1 1812 = 0) (hm : (mk = none ∧ Gv g x) ∨ (mk = some x ∧ Rr x) ∨ (mk = some mkC ∧ Gw g x)) (hm2 : (mk2 = none ∧ Gv g y) ∨ (mk2 = some y ∧ Rr y) ∨ (mk2 = some mkC ∧ Gw g y)) {q1 q2 : RS} (h1 : PuO σ x 1 q1) (h2 : PuO q1.2.1 y 1 q2) {m : Nat} (run : q2.2.1.1 1812 = 0 → uN (q2.2.1.1 1902) = uN (σ.1 1902) + 2 → (∀ j, j < uN (σ.1 1902) → q2.2.1.2.2.1 20 j = σ.2.2.1 20 j) → q2.2.1.2.2.1 20 (uN (σ.1 1902)) = x → q2.2.1.2.2.1 20 (uN (σ.1 1902) + 1) = y → q2.2.1.2.2.1 3 = σ.2.2.1 3 → (∀ j, ¬ (j = 1 ∨ j = 404 ∨ j = 1203 ∨ j = 1812 ∨ j = 1813 ∨ j = 1902) → q2.2.1.1 j = σ.1 j) → ∃ z, RunT c (Kw (Kw K (uN (σ.1 1902)) 1 mk) (uN (σ.1 1902) + 1) 1 mk2) K4 f0 u0 q2.2.1 z ∧ mu q2.2.1 z < m) : IO c B KB f0 u0 σ m ((0, 0), q2.2.1, (q1.2.2.1 + (q2.2.2.1 + 0), q1.2.2.2 + (q2.2.2.2 + 0))) := by
  have p1 := pu_MK mi hm h1
  have p2 := pu_MK p1.1 hm2 h2
  have md := Md_t p1.2 p2.2
  have c1 := h1.2.1
  have c2 := h2.2.1
  have c11 := c1.1
  have c12 := c1.2
  have c21 := c2.1
  have c22 := c2.2
  refine ⟨rfl, ⟨by show q1.2.2.1 + (q2.2.2.1 + 0) + PhC q2.2.1 ≤ _; omega, by show q1.2.2.2 + (q2.2.2.2 + 0) + PhS q2.2.1 ≤ _; omega⟩, Md_M md, fun _ => Md_E md, ?_⟩
  obtain ⟨a1, a2, a3, a4, a5, a6, a7⟩ := h1
  obtain ⟨b1, b2, b3, b4, b5, b6, b7⟩ := h2
  have hzz : ¬ q2.2.1.1 1812 = 0 → Hz (tcS c u0) q2.2.1 := by
    intro z
    rcases b7 with e | e
    · rcases a7 with d | d
      · exact absurd (e.2.2.2.1.trans (d.2.2.2.1.trans h0)) z
      · refine Or.inl ?_
        rw [e.2.2.2.2.1]
        exact d.2.2.2.2
    · exact Or.inl e.2.2.2.2
  by_cases z0 : q2.2.1.1 1812 = 0
  · rcases b7 with ⟨e1, e2, e3, e4, e5, e6⟩ | ⟨e1, e2, e3, e4⟩
    · rcases a7 with ⟨d1, d2, d3, d4, d5, d6⟩ | ⟨d1, d2, d3, d4⟩
      · refine ⟨g, l, t, _, K2, K3, K4, p2.1, fun _ => ?_, hzz⟩
        rw [d1]
        refine run z0 (by rw [e1, d1]) (fun j hj => ?_) ?_ ?_ (by rw [b4.2, a4.2]) (fun j hj => ?_)
        · rw [b6 j (by rw [d1]; omega), a6 j hj]
        · rw [b6 _ (by rw [d1]; omega)]
          exact d3 _ (Nat.le_refl _) (by omega)
        · exact e3 _ (by rw [d1]; exact Nat.le_refl _) (by rw [d1]; omega)
        · by_cases j5 : j = 1905
          · rw [j5, e6, d6]
          · rw [b3.1 j (by omega), a3.1 j (by omega)]
      · rw [e4, d3] at z0
        exact absurd z0 (by decide)
    · rw [e3] at z0
      exact absurd z0 (by decide)
  · exact ⟨g, l, t, _, K2, K3, K4, p2.1, fun z => absurd z z0, hzz⟩
theorem c_fold (p : Pre c g l t K K2 K3 K4 B KB f0 u0 σ fs u d r pb nf nc sq) {pc rk' : Nat} (hd : 1 ≤ d) (hp : pc + 1 ≤ tcN c) (hN : tcN c ≤ 36864) (hpc : σ.1 1900 = nI (pc + 1)) {e0 : Nat} {r1 : List Nat} (hre : r = e0 :: r1) (hd2 : d + 1 < 250000) (tD : tcD c (pc + 1) = some (u + 100, 0, (750000 + (d + 1)) :: r, rk')) (hr : 1000 ≤ rk' ∧ rk' ≤ rk) (nS : NxS c (pc + 2) u d r) : Tm (fun k => f_X3_fold k 0 L σ) (fun q => q.1.1 = 0 ∧ IO c B KB f0 u0 σ (mu σ (qv nf sq rk)) ((0, 0), q.2.1, (q.2.2.1 + 0, q.2.2.2 + 0))) := by
  have mi := p.1
  have ty := p.2.1
  obtain ⟨st1, st2, st3⟩ := mi.2.1.1
  have ts := TyS_sp ty
  have u1 : uN (1 : Int32) = 1 := rfl
  have ea : uN (σ.1 1902 - 1) = uN (σ.1 1902) - 1 := by rw [u_sub (by omega), u1]
  have c1 : (σ.1 1902 - 1).toNatClampNeg = uN (σ.1 1902) - 1 := by rw [u_cl (by omega), ea]
  have i1 : ¬ (σ.1 1902 - 1 < 0 ∨ sN σ 20 ≤ (σ.1 1902 - 1).toNatClampNeg) := u_in (by omega) (by omega)
  have epc : uN (σ.1 1900) = pc + 1 := by rw [hpc, u_n (by omega)]
  generalize hh : σ.2.2.1 20 (uN (σ.1 1902) - 1) = h
  have gh : Gv g h := by rw [← hh]; exact (Ty_v p (by omega) (by omega))
  have kl := kdC_lt (σ.2.2.1 3) h
  have b2 : ∀ (σ' : CS) (L' : LV) (Q : RS → Prop), Q ((0, 0), σ', (0, 0)) → Tm (fun k => f_X3_fold k 2 L' σ') Q := by
    intro σ' L' Q h
    refine Tm_suc (fun k => by rw [f_X3_fold]) ?_
    exact Tm_some h
  refine Tm_suc (fun k => by rw [f_X3_fold]) ?_
  refine Tm_chk i1 ?_
  rw [c1, hh]
  refine Tm_op (c_kind mi.1 gh) (fun q z => ?_)
  rw [z]
  have e0 : (lI lZ 1 h).1 1 = h := rfl
  rw [e0]
  refine Tm_ite (fun k5 => ?_) (fun _ => ?_)
  · have k5' : (5 : Int32) ≤ nI (kdC (σ.2.2.1 3) h) := k5
    have u5 : uN (5 : Int32) = 5 := rfl
    rw [u_le (by decide) (by rw [u_n (by omega)]; omega), u5, u_n (by omega)] at k5'
    refine Tm_suc (fun k => by rw [f_X3_fold]) ?_
    refine Tm_op (c_length mi.1 gh) (fun q2 z2 => ?_)
    rw [z2]
    refine Tm_ite (fun _ => ?_) (fun _ => ?_)
    · refine Tm_op (c_replace mi.1 (Gv_om g) (by show 1 ≤ uN (σ.1 1902); omega) st1 st2.2 p.2.2.1) (fun q3 z3 => ?_)
      have f9 : q3.2.1 1900 = σ.1 1900 := z3.1.1 1900 (by decide)
      rw [f9]
      refine b2 _ _ _ ⟨rfl, ?_⟩
      exact re_fin (σ' := uI q3.2 1900 (σ.1 1900 + 1)) p hd (Gv_om g) z3 rfl (fun j hj => upd_other hj) (by
        show NxS c (uN (σ.1 1900 + 1)) u d r
        rw [u_inc (by omega), epc]; exact nS) _
    · have sq5 := Sq5_k (σ := σ) gh k5'
      refine Tm_suc (fun k => by rw [f_X3_fold]) ?_
      refine Tm_op (c_member mi.1 sq5.1 sq5.2) (fun q3 z3 => ?_)
      rw [z3]
      have gm := mbC_g (y := 0) mi.1 sq5.1 sq5.2
      refine Tm_oxc (c_push st1 st2) (fun q z => by rw [z.1]) (fun q4 z4 => ?_)
      refine Tm_op c_raw (fun q5 z5 => ?_)
      rw [z5]
      have p4 := pu_MK (mk := none) mi (Or.inl ⟨rfl, gm⟩) z4
      have st4 := p4.1.2.1.1
      refine Tm_oxc (c_push st4.1 st4.2.1) (fun q z => by rw [z.1]) (fun q6 z6 => ?_)
      refine b2 _ _ _ ⟨rfl, ?_⟩
      refine pu_2 (mk := none) (mk2 := some mkC) (y := rwN 1) mi p.2.2.2.1 (Or.inl ⟨rfl, gm⟩) (Or.inr (Or.inr ⟨rfl, Gw_rr (rwN_r (by decide))⟩)) z4 z6 (fun _ n2 hb hx hy r3 fe => ?_)
      have hs : SL (Kw (Kw K (uN (σ.1 1902)) 1 none) (uN (σ.1 1902) + 1) 1 (some mkC)) (uN (σ.1 1901) + 4) (uN (q6.2.1.1 1902)) 0 ((750000 + (d + 1)) :: r) := by
        rw [n2, hre]
        have z := SL_pu 1 ty.1
        rw [hre] at z
        exact SL_ct z hd2
      have eb : bt 0 ((750000 + (d + 1)) :: r) = bt d r := by
        show (if bsl ≤ 750000 + (d + 1) then 750000 + (d + 1) - bsl else bt ((750000 + (d + 1)) / 2) r) = _
        rw [if_neg (by unfold bsl; omega), hre]
        exact bt_c _ _ _ _
      have ty' := TyS_k (σ' := q6.2.1) ty ⟨fe 1901 (by decide), fe 1815 (by decide), fe 1811 (by decide), fe 1908 (by decide)⟩ hs (fun p hp => by rw [Kw_o (Or.inl (by omega)), Kw_o (Or.inl (by omega))]) (by rw [eb]; exact ty.2.2.1) ⟨fun cc => absurd cc (by unfold bsl; omega), fun _ => ty.2.2.2.2.2.2.2.2⟩
      refine ⟨_, ⟨by rw [fe 1905 (by decide)]; exact p.2.2.1, u, 0, (750000 + (d + 1)) :: r, rk', fs, pb, nf, nc, sq, Or.inr ⟨d + 1, r, ⟨rfl, rfl, by omega, hd2⟩, ty', by rw [fe 1900 (by decide), epc]; exact tD, ⟨by
        rw [n2, r3, show uN (σ.1 1902) + 2 - 3 = uN (σ.1 1902) - 1 by omega, hb _ (by omega), hh]
        exact k5', by
        rw [n2, show uN (σ.1 1902) + 2 - 1 = uN (σ.1 1902) + 1 by omega, hy, rwN_u (by decide)]
        decide⟩, rfl⟩⟩, ?_⟩
      rw [n2, show uN (σ.1 1902) + 2 - 1 = uN (σ.1 1902) + 1 by omega, hy, unr (by decide)]
      unfold mu qv
      rw [fe 1814 (by decide), fe 1905 (by decide)]
      omega
  · refine Tm_op c_fail (fun q3 e3 => ?_)
    rw [e3]
    refine b2 _ _ _ ⟨rfl, ha_fin p rfl (fun j hj => ?_) rfl (f13 (by decide))⟩
    show upd (upd σ.1 1813 _) 1812 1 j = _
    rw [upd_other (by omega), upd_other (by omega)]
end CTM
end JnS401
section JnS402
/-! The class: gathering begins; a tuple is joined. -/
section CTN
variable {g g' g2 : Nat → Prop} {l l' l2 : List Nat} {t t' t2 : Nat} {σ σ' σ2 : CS} {L : LV} {x y i : Int32} {M M' U U' : Nat → Int32} {K K' K2 K2' K3 K4 K4' KB : Nat → Option Int32} {c : Ct} {B f0 u0 : Nat} {fs : List FrT} {u d : Nat} {r r' : List Nat} {pb nf nc sq rk : Nat}
/-- the uppermost values become gathered ones -/
theorem SL_jn {lo hi n : Nat} {z : Int32} (h : SL K lo hi (d + n) r) {f : Nat} (hf : f < 2) (hd : 2 * d + f < 250000) (hz : Rr z) (hc : f = 1 → 1000 < uN z % 268435456 → 1 ≤ n) : SL (Kw (Kw K hi 1 (some (rwN n))) (hi + 1) 1 (some z)) lo (hi + 2) 0 ((2 * d + f) :: r) := by
  have e2 : (2 * d + f) / 2 = d := by omega
  have le := (SL_le _ _ _ h).2
  have b5 : 250000 < bsl := by decide
  refine ⟨fun cc => absurd cc (by omega), fun _ _ => ⟨hi - n, n, z, by omega, by rw [e2]; exact SL_eq _ _ _ (fun p h1 h2 => by rw [Kw_o (Or.inl (by omega)), Kw_o (Or.inl (by omega))]) (SL_pop r hi d n h), fun p h1 h2 => ?_, ?_, ?_, ⟨hz, fun y => hc (by omega)⟩, fun p h1 h2 => absurd h2 (by omega)⟩, fun _ c5 => absurd hd c5⟩
  · rw [Kw_o (Or.inl (by omega)), Kw_o (Or.inl (by omega))]
    exact SL_top _ _ _ h p (by omega) (by omega)
  · rw [show hi - n + n = hi by omega, Kw_o (Or.inl (by omega)), Kw_i (Nat.le_refl _) (by omega)]
  · rw [show hi - n + n + 1 = hi + 1 by omega, Kw_i (Nat.le_refl _) (by omega)]
theorem jn_fin {n : Nat} (p : Pre c g l t K K2 K3 K4 B KB f0 u0 σ fs u (d + n) r pb nf nc sq) {f : Nat} (hf : f < 2) (hd : 2 * d + f < 250000) (hn : n < 268435456) (hz : Rr y) (hc : f = 1 → 1000 < uN y % 268435456 → 1 ≤ n) {q1 q2 : RS} (h1 : PuO σ (rwN n) 1 q1) (h2 : PuO q1.2.1 y 1 q2) (nx : Nx c (uN (σ.1 1900)) u 0 ((2 * d + f) :: r) rk) : IO c B KB f0 u0 σ (mu σ (qv nf sq rk)) ((0, 0), q2.2.1, (q1.2.2.1 + (q2.2.2.1 + 0), q1.2.2.2 + (q2.2.2.2 + 0))) := by
  have b5 : 250000 < bsl := by decide
  have mi := p.1
  have ty := p.2.1
  refine pu_2 (mk := some (rwN n)) (mk2 := some y) mi p.2.2.2.1 (Or.inr (Or.inl ⟨rfl, rwN_r hn⟩)) (Or.inr (Or.inl ⟨rfl, hz⟩)) h1 h2 (fun _ n2 hb hx hy r3 fe => ?_)
  obtain ⟨rk', k1, k2, k3⟩ := nx
  have hs : SL (Kw (Kw K (uN (σ.1 1902)) 1 (some (rwN n))) (uN (σ.1 1902) + 1) 1 (some y)) (uN (σ.1 1901) + 4) (uN (q2.2.1.1 1902)) 0 ((2 * d + f) :: r) := by
    rw [n2]
    exact SL_jn ty.1 hf hd hz hc
  have ts := TyS_sp ty
  have ty' := TyS_k (σ' := q2.2.1) ty ⟨fe 1901 (by decide), fe 1815 (by decide), fe 1811 (by decide), fe 1908 (by decide)⟩ hs (fun p hp => by rw [Kw_o (Or.inl (by omega)), Kw_o (Or.inl (by omega))]) k3 ⟨fun cc => absurd cc (by omega), fun _ => ty.2.2.2.2.2.2.2.2⟩
  exact go_n ty' p.2.2.1 (fe 1905 (by decide)) (fe 1814 (by decide)) ⟨rk', by rw [fe 1900 (by decide)]; exact k1, k2, k3⟩
theorem c_gather1 (p : Pre c g l t K K2 K3 K4 B KB f0 u0 σ fs u d r pb nf nc sq) {f : Nat} (hf : f < 2) (hd : 2 * d + f < 250000) (nx : Nx c (uN (σ.1 1900)) u 0 ((2 * d + f) :: r) rk) : Tm (fun k => f_X3_gather k 1 L σ) (IO c B KB f0 u0 σ (mu σ (qv nf sq rk))) := by
  have b5 : 250000 < bsl := by decide
  have mi := p.1
  obtain ⟨st1, st2, st3⟩ := mi.2.1.1
  refine Tm_suc (fun k => by rw [f_X3_gather]) ?_
  refine Tm_op c_raw (fun q1 z1 => ?_)
  rw [z1]
  refine Tm_oxc (c_push st1 st2) (fun q z => by rw [z.1]) (fun q4 z4 => ?_)
  have z4' : PuO σ (rwN 0) 1 q4 := z4
  refine Tm_op c_raw (fun q5 z5 => ?_)
  rw [z5]
  have p4 := pu_MK (mk := some (rwN 0)) mi (Or.inr (Or.inl ⟨rfl, rwN_r (by decide)⟩)) z4'
  have st4 := p4.1.2.1.1
  refine Tm_oxc (c_push st4.1 st4.2.1) (fun q z => by rw [z.1]) (fun q6 z6 => ?_)
  have z6' : PuO q4.2.1 (rwN 1) 1 q6 := z6
  refine Tm_suc (fun k => by rw [f_X3_gather]) ?_
  have zz := jn_fin (n := 0) (d := d) (y := rwN 1) (q1 := q4) (q2 := q6) p hf hd (by decide) (rwN_r (by decide)) (fun _ z => absurd z (by decide)) z4' z6' nx
  exact Tm_some zz
theorem c_joinTuple {n : Nat} (p : Pre c g l t K K2 K3 K4 B KB f0 u0 σ fs u (d + n) r pb nf nc sq) {f : Nat} (hf : f < 2) (hd : 2 * d + f < 250000) (n1 : 1 ≤ n) (h1 : uN (L.1 1) = n) (nx : Nx c (uN (σ.1 1900)) u 0 ((2 * d + f) :: r) rk) : Tm (fun k => f_X3_joinTuple k 0 L σ) (fun q => q.1.1 = 0 ∧ IO c B KB f0 u0 σ (mu σ (qv nf sq rk)) ((0, 0), q.2.1, (q.2.2.1 + 0, q.2.2.2 + 0))) := by
  have b5 : 250000 < bsl := by decide
  have mi := p.1
  obtain ⟨st1, st2, st3⟩ := mi.2.1.1
  have ts := TyS_sp p.2.1
  have b6 : ∀ (L' : LV) (q4 : RS), PuO σ (rwN n) 1 q4 → Tm (fun k => f_X3_joinTuple k 6 L' q4.2.1) (fun q => q.1.1 = 0 ∧ IO c B KB f0 u0 σ (mu σ (qv nf sq rk)) ((0, 0), q.2.1, (q4.2.2.1 + (q.2.2.1 + 0), q4.2.2.2 + (q.2.2.2 + 0)))) := by
    intro L' q4 z4
    have p4 := pu_MK (mk := some (rwN n)) mi (Or.inr (Or.inl ⟨rfl, rwN_r (by omega)⟩)) z4
    have st4 := p4.1.2.1.1
    refine Tm_suc (fun k => by rw [f_X3_joinTuple]) ?_
    refine Tm_op c_raw (fun q5 z5 => ?_)
    rw [z5]
    refine Tm_oxc (c_push st4.1 st4.2.1) (fun q z => by rw [z.1]) (fun q6 z6 => ?_)
    have z6' : PuO q4.2.1 (rwN (uN (L'.1 100) % 268435456)) 1 q6 := z6
    have zz := jn_fin (n := n) (y := rwN (uN (L'.1 100) % 268435456)) (q1 := q4) (q2 := q6) p hf hd (by omega) (rwN_r (Nat.mod_lt _ (by decide))) (fun _ _ => n1) z4 z6' nx
    exact Tm_some ⟨rfl, zz⟩
  have b2 : ∀ L' : LV, L'.1 1 = L.1 1 → Tm (fun k => f_X3_joinTuple k 2 L' σ) (fun q => q.1.1 = 0 ∧ IO c B KB f0 u0 σ (mu σ (qv nf sq rk)) ((0, 0), q.2.1, (q.2.2.1 + 0, q.2.2.2 + 0))) := by
    intro L' l1
    refine Tm_suc (fun k => by rw [f_X3_joinTuple]) ?_
    refine Tm_op c_raw (fun q1 z1 => ?_)
    rw [z1]
    refine Tm_oxc (c_push st1 st2) (fun q z => by rw [z.1]) (fun q4 z4 => ?_)
    have z4' : PuO σ (rwN n) 1 q4 := by
      have e : uN (L'.1 1) % 268435456 = n := by rw [l1, h1]; omega
      rw [← e]; exact z4
    refine Tm_ite (fun _ => ?_) (fun _ => ?_)
    · refine Tm_suc (fun k => by rw [f_X3_joinTuple]) ?_
      exact b6 _ _ z4'
    · exact b6 _ _ z4'
  have b1 : ∀ (k : Nat) (L' : LV), k ≤ n → L'.1 1 = L.1 1 → uN (L'.1 4) + k = uN (σ.1 1902) → Tm (fun k => f_X3_joinTuple k 1 L' σ) (fun q => q.1.1 = 0 ∧ IO c B KB f0 u0 σ (mu σ (qv nf sq rk)) ((0, 0), q.2.1, (q.2.2.1 + 0, q.2.2.2 + 0))) := by
    intro k
    induction k with
    | zero =>
      intro L' kn l1 l4
      refine Tm_suc (fun k => by rw [f_X3_joinTuple]) ?_
      exact Tm_yes (by rw [u_le (by omega) (by omega)]; omega) (b2 _ l1)
    | succ k ih =>
      intro L' kn l1 l4
      have b7 : ∀ L2 : LV, L2.1 1 = L.1 1 → L2.1 4 = L'.1 4 → Tm (fun k => f_X3_joinTuple k 7 L2 σ) (fun q => q.1.1 = 0 ∧ IO c B KB f0 u0 σ (mu σ (qv nf sq rk)) ((0, 0), q.2.1, (q.2.2.1 + 0, q.2.2.2 + 0))) := by
        intro L2 m1 m4
        refine Tm_suc (fun k => by rw [f_X3_joinTuple]) ?_
        refine ih _ (by omega) m1 ?_
        show uN (L2.1 4 + 1) + k = _
        rw [m4, u_inc (by omega)]
        omega
      have b3 : ∀ L2 : LV, L2.1 1 = L.1 1 → L2.1 4 = L'.1 4 → Tm (fun k => f_X3_joinTuple k 3 L2 σ) (fun q => q.1.1 = 0 ∧ IO c B KB f0 u0 σ (mu σ (qv nf sq rk)) ((0, 0), q.2.1, (q.2.2.1 + 0, q.2.2.2 + 0))) := by
        intro L2 m1 m4
        refine Tm_suc (fun k => by rw [f_X3_joinTuple]) ?_
        exact b7 _ m1 m4
      have b4 : ∀ L2 : LV, L2.1 1 = L.1 1 → L2.1 4 = L'.1 4 → Tm (fun k => f_X3_joinTuple k 4 L2 σ) (fun q => q.1.1 = 0 ∧ IO c B KB f0 u0 σ (mu σ (qv nf sq rk)) ((0, 0), q.2.1, (q.2.2.1 + 0, q.2.2.2 + 0))) := by
        intro L2 m1 m4
        refine Tm_suc (fun k => by rw [f_X3_joinTuple]) ?_
        exact b7 _ m1 m4
      have i4 : ¬ (L'.1 4 < 0 ∨ sN σ 20 ≤ (L'.1 4).toNatClampNeg) := u_in (by omega) (by omega)
      refine Tm_suc (fun k => by rw [f_X3_joinTuple]) ?_
      refine Tm_no (by rw [u_le (by omega) (by omega)]; omega) ?_
      refine Tm_chk i4 ?_
      refine Tm_op (c_size1 mi.1 (by show Gv g (σ.2.2.1 20 (L'.1 4).toNatClampNeg); rw [u_cl (by omega)]; exact (Ty_v p (by omega) (by omega)))) (fun q z => ?_)
      have e : q.2 = σ := z.1
      rw [e]
      refine Tm_ite (fun _ => ?_) (fun _ => b3 _ l1 rfl)
      refine Tm_chk i4 ?_
      refine Tm_ite (fun _ => b4 _ l1 rfl) (fun _ => Tm_ite (fun _ => b4 _ l1 rfl) (fun _ => b3 _ l1 rfl))
  refine Tm_suc (fun k => by rw [f_X3_joinTuple]) ?_
  refine b1 n _ (Nat.le_refl _) rfl ?_
  show uN (σ.1 1902 - L.1 1) + n = _
  rw [u_sub (by omega), h1]
  omega
end CTN
end JnS402
section JnS403
/-! The class: gathered. -/
section CTO
variable {g g' g2 : Nat → Prop} {l l' l2 : List Nat} {t t' t2 : Nat} {σ σ' σ2 : CS} {L : LV} {x y i : Int32} {M M' U U' : Nat → Int32} {K K' K2 K2' K3 K4 K4' KB : Nat → Option Int32} {c : Ct} {B f0 u0 : Nat} {fs : List FrT} {u d : Nat} {r r' : List Nat} {pb nf nc sq rk : Nat}
/-- what is gathered, its numbers, and the stack without it -/
theorem Pre_gd (p : Pre c g l t K K2 K3 K4 B KB f0 u0 σ fs u 0 (d :: r) pb nf nc sq) (hd : d < 250000) : ∃ (b n : Nat) (z : Int32), uN (σ.1 1902) = b + n + 2 ∧ σ.2.2.1 20 (b + n) = rwN n ∧ σ.2.2.1 20 (b + n + 1) = z ∧ Rr z ∧ (d % 2 = 1 → 1000 < uN z % 268435456 → 1 ≤ n) ∧ uN (σ.1 1901) + 4 + d / 2 ≤ b ∧ (∀ q, b ≤ q → q < b + n → Gv g (σ.2.2.1 20 q)) ∧ ∀ x, uN x = b → Pre c g l t K K2 K3 K4 B KB f0 u0 (uI σ 1902 x) fs u (d / 2) r pb nf nc sq := by
  have b5 : 250000 < bsl := by decide
  obtain ⟨mi, ty, w, h0, bo⟩ := p
  obtain ⟨st1, st2, st3⟩ := mi.2.1.1
  have sl := ty.1
  obtain ⟨b, n, z, a1, a2, a3, a4, a5, a6, a7⟩ := sl.2.1 (by omega) hd
  have v1 := pin_v st3 (by omega) a4 (rwN_r (by omega))
  have v2 := pin_v st3 (by omega) a5 a6.1
  have sb := SL_le _ _ _ a2
  refine ⟨b, n, z, by omega, v1, v2, a6.1, a6.2, sb.2, fun q q1 q2 => (st3 q (by omega)).2.1 (a3 q q1 q2), fun x hx => ?_⟩
  have e5 : (uI σ 1902 x).1 1902 = x := rfl
  have md : Md σ (uI σ 1902 x) := Md_i σ (by decide) _
  have hb : tcF c u ≤ bt (d / 2) r := by
    have q := ty.2.2.1
    have e : bt 0 (d :: r) = bt (d / 2) r := by
      show (if bsl ≤ d then d - bsl else bt (d / 2) r) = _
      rw [if_neg (by omega)]
    rw [← e]; exact q
  have v := VI_20 (σ' := uI σ 1902 x) mi.2.1 md rfl ⟨fun _ z => z, fun _ _ => rfl⟩ (K' := K) (by rw [e5, hx]; show _ ≤ sN σ 20; omega) st2 (by rw [e5, hx]; exact fun j hj => st3 j (by omega))
  have ty' : TyS c K K4 f0 u0 (uI σ 1902 x) fs u (d / 2) r pb nf nc sq := TyS_k (σ' := uI σ 1902 x) ty ⟨rfl, rfl, rfl, rfl⟩ (by rw [e5, hx]; exact a2) (fun _ _ => rfl) hb (ty.2.2.2.2.2.2.2.2.2 (by omega))
  have ts := FC_f0 _ _ _ _ _ _ _ ty.2.1
  have bb : B ≤ b := by
    rcases bo with y | y
    · have := ts.1
      omega
    · have y1 := TyS_B ty'
      rw [e5, hx] at y1
      omega
  exact ⟨MIn_d mi md (HQ_fr mi.1 rfl rfl rfl) v mi.2.2.2.2.2.1 (by rw [e5, hx]; exact bb), ty', w, h0, bo⟩
theorem c_gathered (p : Pre c g l t K K2 K3 K4 B KB f0 u0 σ fs u 0 (d :: r) pb nf nc sq) (hd : d < 250000) (nS : NxS c (uN (σ.1 1900)) u (d / 2 + 1) r) : Tm (fun k => f_X3_gathered k 0 L σ) (fun q => q.1.1 = 0 ∧ IO c B KB f0 u0 σ (mu σ (qv nf sq rk)) ((0, 0), q.2.1, (q.2.2.1 + 0, q.2.2.2 + 0))) := by
  have b5 : 250000 < bsl := by decide
  have mi := p.1
  obtain ⟨st1, st2, st3⟩ := mi.2.1.1
  obtain ⟨b, n, z, e1, v1, v2, rz, zc, bl, gvs, pp⟩ := Pre_gd p hd
  have u1 : uN (1 : Int32) = 1 := rfl
  have u2 : uN (2 : Int32) = 2 := rfl
  have ea : uN (σ.1 1902 - 1) = b + n + 1 := by rw [u_sub (by omega), u1]; omega
  have ea2 : uN (σ.1 1902 - 2) = b + n := by rw [u_sub (by omega), u2]; omega
  have c1 : (σ.1 1902 - 1).toNatClampNeg = b + n + 1 := by rw [u_cl (by omega), ea]
  have c2 : (σ.1 1902 - 2).toNatClampNeg = b + n := by rw [u_cl (by omega), ea2]
  have i1 : ¬ (σ.1 1902 - 1 < 0 ∨ sN σ 20 ≤ (σ.1 1902 - 1).toNatClampNeg) := u_in (by omega) (by omega)
  have i2 : ¬ (σ.1 1902 - 2 < 0 ∨ sN σ 20 ≤ (σ.1 1902 - 2).toNatClampNeg) := u_in (by omega) (by omega)
  have eb : uN (σ.1 1902 - 2 - nI n) = b := by rw [u_sub (by rw [u_n (by omega), ea2]; omega), u_n (by omega), ea2]; omega
  have pd := pp _ eb
  have b3 : ∀ (σ' : CS) (L' : LV) (Q : RS → Prop), Q ((0, 0), σ', (0, 0)) → Tm (fun k => f_X3_gathered k 3 L' σ') Q := by
    intro σ' L' Q h
    refine Tm_suc (fun k => by rw [f_X3_gathered]) ?_
    exact Tm_some h
  generalize hτ : uI σ 1902 (σ.1 1902 - 2 - nI n) = τ at pd
  have md : Md σ τ := by rw [← hτ]; exact Md_i σ (by decide) _
  have es : τ.2.2.2.2.1 = σ.2.2.2.2.1 := by rw [← hτ]; rfl
  have fe : ∀ j, ¬ j = 1902 → τ.1 j = σ.1 j := fun j hj => by rw [← hτ]; exact upd_other hj
  have r20 : τ.2.2.1 = σ.2.2.1 := by rw [← hτ]; rfl
  have s20 : sN τ 20 = sN σ 20 := by show τ.2.2.2.2.1 20 = _; rw [es]
  have fail : ∀ (L' : LV) (a : Int32), ¬ a = 0 → Tm (fun k => Jvm.Pilot.CSetHouseLaw_law_r6264_2ea8b6.op (y_X3_fail k 0 (lI lZ 1 a) τ) (fun r5 => f_X3_gathered k 3 L' r5.2)) (fun q => q.1.1 = 0 ∧ IO c B KB f0 u0 σ (mu σ (qv nf sq rk)) ((0, 0), q.2.1, (q.2.2.1 + 0, q.2.2.2 + 0))) := by
    intro L' a a0
    refine Tm_op c_fail (fun q e => ?_)
    rw [e]
    refine b3 _ _ _ ⟨rfl, IO_b md es (ha_fin pd rfl (fun j hj => ?_) rfl (f13 a0))⟩
    show upd (upd τ.1 1813 _) 1812 1 j = _
    rw [upd_other (by omega), upd_other (by omega)]
  have b6 : ∀ (L' : LV) (q : Int32 × CS), L'.1 100 = q.1 → Va g t τ q → Tm (fun k => f_X3_gathered k 6 L' q.2) (fun q => q.1.1 = 0 ∧ IO c B KB f0 u0 σ (mu σ (qv nf sq rk)) ((0, 0), q.2.1, (q.2.2.1 + 0, q.2.2.2 + 0))) := by
    intro L' q l100 v
    obtain ⟨g', l', t', ga, v⟩ := v
    refine Tm_suc (fun k => by rw [f_X3_gathered]) ?_
    rw [l100]
    refine Tm_oxc (giX (Pre_Ga pd ga) (Md_t md (Md_S (Sm_A ga.2.2.2.2))) (by rw [ga.2.2.2.2.2.2.2]; exact es) ((ga.2.2.2.2.1 1905 (by decide)).trans (fe 1905 (by decide))) ((ga.2.2.2.2.1 1814 (by decide)).trans (fe 1814 (by decide))) (v.elim id Gv_rw) (by rw [ga.2.2.2.2.1 1900 (by decide), fe 1900 (by decide)]; exact nS) (qv nf sq rk)) (fun q4 z4 => z4.1) (fun q4 z4 => ?_)
    exact b3 _ _ _ ⟨rfl, z4.2⟩
  have hs : ∀ j, j < n → Gv g (τ.2.2.1 20 (b + j)) := fun j hj => by rw [r20]; exact gvs _ (by omega) (by omega)
  have b2 : ∀ L' : LV, L'.1 2 = nI n → uN (L'.1 4) = b → Tm (fun k => f_X3_gathered k 2 L' τ) (fun q => q.1.1 = 0 ∧ IO c B KB f0 u0 σ (mu σ (qv nf sq rk)) ((0, 0), q.2.1, (q.2.2.1 + 0, q.2.2.2 + 0))) := by
    intro L' l2 l4
    have e2 : uN (L'.1 2) = n := by rw [l2, u_n (by omega)]
    refine Tm_suc (fun k => by rw [f_X3_gathered]) ?_
    refine Tm_ite (fun _ => ?_) (fun _ => fail _ _ (by decide))
    refine Tm_suc (fun k => by rw [f_X3_gathered]) ?_
    refine Tm_ite (fun _ => ?_) (fun _ => ?_)
    · refine Tm_suc (fun k => by rw [f_X3_gathered]) ?_
      refine Tm_op (c_makeTuple20 pd.1.1 (by rw [s20]; omega) (fun _ _ => ?_)) (fun q3 z => ?_)
      · show uN (L'.1 4) + uN (L'.1 2) ≤ sN τ 20 ∧ ∀ j, j < uN (L'.1 2) → Gv g (τ.2.2.1 20 (uN (L'.1 4) + j))
        rw [l4, e2, s20]
        exact ⟨by omega, hs⟩
      · exact b6 _ q3 rfl (Va_M pd.1.1 (AXf_r _) z)
    · refine Tm_op (c_makeRow20 (kd := 6) pd.1.1 (Or.inr rfl) (by rw [s20]; omega) rfl (fun _ _ => ?_)) (fun q3 z => ?_)
      · show uN (L'.1 4) + uN (L'.1 2) ≤ sN τ 20 ∧ ∀ j, j < uN (L'.1 2) → Gv g (τ.2.2.1 20 (uN (L'.1 4) + j))
        rw [l4, e2, s20]
        exact ⟨by omega, hs⟩
      · exact b6 _ q3 rfl (Va_M pd.1.1 (AXf_r _) z)
  refine Tm_suc (fun k => by rw [f_X3_gathered]) ?_
  refine Tm_chk i2 ?_
  rw [c2]
  refine Tm_op c_unraw (fun q5 z5 => ?_)
  rw [z5]
  refine Tm_chk i1 ?_
  refine Tm_op c_unraw (fun q6 z6 => ?_)
  rw [z6]
  have en : nI (uN ((lI lZ 0 (σ.2.2.1 20 (b + n))).1 0) % 268435456) = nI n := by
    show nI (uN (σ.2.2.1 20 (b + n)) % 268435456) = nI n
    rw [v1, unr (by omega)]
  rw [en]
  show Tm (fun k => f_X3_gathered k 1 _ (uI σ 1902 (σ.1 1902 - 2 - nI n))) _
  rw [hτ]
  refine Tm_suc (fun k => by rw [f_X3_gathered]) ?_
  refine Tm_ite (fun _ => b2 _ rfl eb) (fun _ => ?_)
  refine Tm_ite (fun _ => b2 _ rfl eb) (fun _ => ?_)
  refine Tm_chk (by rw [s20]; exact u_in (by show uN (σ.1 1902 - 2 - nI n) < _; omega) (by omega)) ?_
  refine Tm_ite (fun _ => fail _ _ (by decide)) (fun _ => b2 _ rfl eb)
end CTO
end JnS403
section JnS404
/-! The class: one more of a tuple that is gathered. -/
section CTP
variable {g g' g2 : Nat → Prop} {l l' l2 : List Nat} {t t' t2 : Nat} {σ σ' σ2 : CS} {L : LV} {x y i : Int32} {M M' U U' : Nat → Int32} {K K' K2 K2' K3 K4 K4' KB : Nat → Option Int32} {c : Ct} {B f0 u0 : Nat} {fs : List FrT} {u d : Nat} {r r' : List Nat} {pb nf nc sq rk : Nat}
/-- a place of the stack written, pinned or not -/
theorem MIn_wr (mi : MIn c g l t K K2 K3 K4 B KB σ) {mk : Option Int32} (hm : (mk = none ∧ Gv g x) ∨ (mk = some x ∧ Rr x)) {j : Nat} (hB : B ≤ j) : MIn c g l t (Kw K j 1 mk) K2 K3 K4 B KB (uA σ 20 j x) ∧ Md σ (uA σ 20 j x) := by
  obtain ⟨st1, st2, st3⟩ := mi.2.1.1
  have md : Md σ (uA σ 20 j x) := Md_A σ (by decide) _ _
  have rw1 : Rwk g ((uA σ 20 j x).2.2.1 3) (Kw K j 1 mk) ((uA σ 20 j x).2.2.1 20) (uN ((uA σ 20 j x).1 1902)) := by
    intro i hi
    have hi' : i < uN (σ.1 1902) := hi
    show Gw g (upd (σ.2.2.1 20) j x i) ∧ (Kw K j 1 mk i = none → Gv g (upd (σ.2.2.1 20) j x i)) ∧ ∀ v, Kw K j 1 mk i = some v → (upd (σ.2.2.1 20) j x i = v ∧ Rr v) ∨ (Mkd g (σ.2.2.1 3) v (upd (σ.2.2.1 20) j x i))
    by_cases e : i = j
    · rw [e, upd_same, Kw_i (Nat.le_refl _) (by omega)]
      rcases hm with m | m
      · rw [m.1]; exact Rwn m.2
      · rw [m.1]; exact Rwp m.2
    · rw [upd_other e, Kw_o (by omega)]
      exact st3 i hi'
  have v := VI_20 mi.2.1 md rfl ⟨fun _ z => z, fun _ _ => rfl⟩ st1 st2 rw1
  exact ⟨MIn_d mi md (HQ_fr mi.1 rfl rfl rfl) v (fun i hi => by rw [Kw_o (Or.inl (by omega))]; exact mi.2.2.2.2.2.1 i hi) mi.2.2.2.2.2.2.1.2, md⟩
theorem c_gatherIntoTuple (p : Pre c g l t K K2 K3 K4 B KB f0 u0 σ fs u 0 (d :: r) pb nf nc sq) (hd : d < 250000) (d2 : d % 2 = 0) (gx : Gv g (L.1 1)) (nx : Nx c (uN (σ.1 1900)) u 0 (d :: r) rk) : Tm (fun k => f_X3_gatherIntoTuple k 0 L σ) (fun q => q.1.1 = 0 ∧ IO c B KB f0 u0 σ (mu σ (qv nf sq rk)) ((0, 0), q.2.1, (q.2.2.1 + 0, q.2.2.2 + 0))) := by
  have b5 : 250000 < bsl := by decide
  have pcopy := p
  obtain ⟨mi, ty, w, h0, bo⟩ := p
  obtain ⟨st1, st2, st3⟩ := mi.2.1.1
  have u1 : uN (1 : Int32) = 1 := rfl
  have u2 : uN (2 : Int32) = 2 := rfl
  obtain ⟨b, n, z, a1, a2, a3, a4, a5, a6, a7⟩ := ty.1.2.1 (by omega) hd
  have v1 := pin_v st3 (by omega) a4 (rwN_r (by omega))
  have v2 := pin_v st3 (by omega) a5 a6.1
  have sb := SL_le _ _ _ a2
  have bB : B ≤ b := by
    obtain ⟨b', n', z', f1, f2, f3, f4, f5, f6, _, pp⟩ := Pre_gd pcopy hd
    have y := (pp (nI b') (u_n (by omega))).1.2.2.2.2.2.2.1.2
    have y' : B ≤ uN (nI b') := y
    rw [u_n (by omega)] at y'
    have s1 := pp (nI b') (u_n (by omega))
    rcases bo with q | q
    · have := (FC_f0 _ _ _ _ _ _ _ ty.2.1).1
      omega
    · have y2 := FC_B _ _ _ _ _ _ _ ty.2.1
      have q3 := ty.2.2.1
      have e : bt 0 (d :: r) = bt (d / 2) r := by
        show (if bsl ≤ d then d - bsl else bt (d / 2) r) = _
        rw [if_neg (by omega)]
      rw [e] at q3
      rcases y2 with y3 | y3
      · rw [y3.2] at q3
        omega
      · omega
  have ea : uN (σ.1 1902 - 1) = b + n + 1 := by rw [u_sub (by omega), u1]; omega
  have ea2 : uN (σ.1 1902 - 2) = b + n := by rw [u_sub (by omega), u2]; omega
  have c1 : (σ.1 1902 - 1).toNatClampNeg = b + n + 1 := by rw [u_cl (by omega), ea]
  have c2 : (σ.1 1902 - 2).toNatClampNeg = b + n := by rw [u_cl (by omega), ea2]
  have i1 : ¬ (σ.1 1902 - 1 < 0 ∨ sN σ 20 ≤ (σ.1 1902 - 1).toNatClampNeg) := u_in (by omega) (by omega)
  have i2 : ¬ (σ.1 1902 - 2 < 0 ∨ sN σ 20 ≤ (σ.1 1902 - 2).toNatClampNeg) := u_in (by omega) (by omega)
  have b1 : ∀ L' : LV, Tm (fun k => f_X3_gatherIntoTuple k 1 L' σ) (fun q => q.1.1 = 0 ∧ IO c B KB f0 u0 σ (mu σ (qv nf sq rk)) ((0, 0), q.2.1, (q.2.2.1 + 0, q.2.2.2 + 0))) := by
    intro L'
    refine Tm_suc (fun k => by rw [f_X3_gatherIntoTuple]) ?_
    exact Tm_some ⟨rfl, fl_fin pcopy rfl (fun _ _ => rfl) nx⟩
  have b4 : ∀ L' : LV, Tm (fun k => f_X3_gatherIntoTuple k 4 L' σ) (fun q => q.1.1 = 0 ∧ IO c B KB f0 u0 σ (mu σ (qv nf sq rk)) ((0, 0), q.2.1, (q.2.2.1 + 0, q.2.2.2 + 0))) := by
    intro L'
    refine Tm_suc (fun k => by rw [f_X3_gatherIntoTuple]) ?_
    refine Tm_op c_raw (fun q1 z1 => ?_)
    rw [z1]
    refine Tm_chk i1 ?_
    refine Tm_some ⟨rfl, ?_⟩
    show IO c B KB f0 u0 σ (mu σ (qv nf sq rk)) ((0, 0), uA σ 20 (σ.1 1902 - 1).toNatClampNeg (rwN 3000), (0, 0))
    rw [c1]
    have m1 := MIn_wr (x := rwN 3000) (mk := some (rwN 3000)) (j := b + n + 1) mi (Or.inr ⟨rfl, rwN_r (by decide)⟩) (by omega)
    refine ⟨rfl, CoP_0 rfl, Md_M m1.2, fun _ => Md_E m1.2, g, l, t, _, K2, K3, K4, m1.1, fun _ => ?_, fun z => absurd h0 z⟩
    have hs : SL (Kw K (b + n + 1) 1 (some (rwN 3000))) (uN (σ.1 1901) + 4) (uN (σ.1 1902)) 0 (d :: r) := by
      refine ⟨fun cc => absurd cc (by omega), fun _ _ => ⟨b, n, rwN 3000, a1, SL_eq _ _ _ (fun p h1 h2 => Kw_o (Or.inl (by omega))) a2, fun p h1 h2 => ?_, ?_, Kw_i (Nat.le_refl _) (by omega), ⟨rwN_r (by decide), fun y => absurd y (by omega)⟩, fun p h1 h2 => absurd h2 (by omega)⟩, fun _ c5 => absurd hd c5⟩
      · rw [Kw_o (Or.inl (by omega))]; exact a3 p h1 h2
      · rw [Kw_o (Or.inl (by omega))]; exact a4
    exact go_n (TyS_k (σ' := uA σ 20 (b + n + 1) (rwN 3000)) ty ⟨rfl, rfl, rfl, rfl⟩ hs (fun p hp => Kw_o (Or.inl (by omega))) ty.2.2.1 ty.2.2.2.2.2.2.2.2) w rfl rfl nx
  have b3 : ∀ L' : LV, L'.1 1 = L.1 1 → L'.1 2 = nI n → Tm (fun k => f_X3_gatherIntoTuple k 3 L' σ) (fun q => q.1.1 = 0 ∧ IO c B KB f0 u0 σ (mu σ (qv nf sq rk)) ((0, 0), q.2.1, (q.2.2.1 + 0, q.2.2.2 + 0))) := by
    intro L' l1 l2
    have e21 : uN (L'.1 2 + 1) % 268435456 = n + 1 := by rw [l2, u_inc (by rw [u_n (by omega)]; omega), u_n (by omega)]; omega
    have m1 := MIn_wr (x := L.1 1) (mk := none) (j := b + n) mi (Or.inl ⟨rfl, gx⟩) (by omega)
    have m2 := MIn_wr (x := rwN (n + 1)) (mk := some (rwN (n + 1))) (j := b + n + 1) m1.1 (Or.inr ⟨rfl, rwN_r (by omega)⟩) (by omega)
    have st2' := m2.1.2.1.1
    have gz : Gw g z := Gw_rr a6.1
    refine Tm_suc (fun k => by rw [f_X3_gatherIntoTuple]) ?_
    refine Tm_chk i1 ?_
    refine Tm_chk i2 ?_
    refine Tm_op c_raw (fun q1 z1 => ?_)
    rw [z1]
    refine Tm_chk i1 ?_
    show Tm (fun k => f_X3_gatherIntoTuple k 5 (lI L' 5 (σ.2.2.1 20 (σ.1 1902 - 1).toNatClampNeg)) (uA (uA σ 20 (σ.1 1902 - 2).toNatClampNeg (L'.1 1)) 20 (σ.1 1902 - 1).toNatClampNeg (rwN (uN (L'.1 2 + 1) % 268435456)))) _
    rw [c1, c2, e21, l1, v2]
    generalize hτ : uA (uA σ 20 (b + n) (L.1 1)) 20 (b + n + 1) (rwN (n + 1)) = τ at m2 st2'
    have eτ : ∀ j, τ.1 j = σ.1 j := fun j => by rw [← hτ]; rfl
    have sτ : τ.2.2.2.2.1 = σ.2.2.2.2.1 := by rw [← hτ]; rfl
    refine Tm_suc (fun k => by rw [f_X3_gatherIntoTuple]) ?_
    refine Tm_oxc (c_push st2'.1 st2'.2.1) (fun q z => by rw [z.1]) (fun q4 z4 => ?_)
    have z4' : PuO τ z 1 q4 := z4
    have m4 := pu_MK (mk := some mkC) m2.1 (Or.inr (Or.inr ⟨rfl, gz⟩)) z4'
    refine Tm_op c_raw (fun q5 z5 => ?_)
    rw [z5]
    obtain ⟨h1, h2, h3, h4, h5, h6, h7⟩ := z4'
    have sp : 1 ≤ uN (q4.2.1.1 1902) ∧ uN (q4.2.1.1 1902) ≤ sN q4.2.1 20 ∧ B ≤ uN (q4.2.1.1 1902) - 1 := by
      rcases h7 with y | y
      · rw [y.1, eτ]
        have := y.2.1
        rw [eτ] at this
        exact ⟨by omega, by omega, by omega⟩
      · rw [y.1, eτ]
        have := y.2.1
        rw [eτ] at this
        exact ⟨by omega, by omega, by omega⟩
    have ea4 : uN (q4.2.1.1 1902 - 1) = uN (q4.2.1.1 1902) - 1 := by rw [u_sub (by rw [u1]; exact sp.1), u1]
    have c4 : (q4.2.1.1 1902 - 1).toNatClampNeg = uN (q4.2.1.1 1902) - 1 := by rw [u_cl (by omega), ea4]
    refine Tm_chk (u_in (by rw [ea4]; show _ < sN q4.2.1 20; omega) (by show sN q4.2.1 20 ≤ _; omega)) ?_
    refine Tm_some ⟨rfl, ?_⟩
    generalize hv : rwN (uN ((lI lZ 0 ((lI L' 5 z).1 4)).1 0) % 268435456) = rv
    have rvr : Rr rv := by rw [← hv]; exact rwN_r (Nat.mod_lt _ (by decide))
    show IO c B KB f0 u0 σ (mu σ (qv nf sq rk)) ((0, 0), uA q4.2.1 20 (q4.2.1.1 1902 - 1).toNatClampNeg rv, (q4.2.2.1 + 0, q4.2.2.2 + 0))
    rw [c4]
    have m5 := MIn_wr (x := rv) (mk := some rv) (j := uN (q4.2.1.1 1902) - 1) m4.1 (Or.inr ⟨rfl, rvr⟩) sp.2.2
    have md := Md_t (Md_t m1.2 m2.2) (Md_t m4.2 m5.2)
    have ph := Ph_s (σ := σ) (σ' := τ) sτ
    have ph2 := Ph_s (σ := q4.2.1) (σ' := uA q4.2.1 20 (uN (q4.2.1.1 1902) - 1) rv) rfl
    have k1 := h2.1
    have k2 := h2.2
    refine ⟨rfl, ⟨by show q4.2.2.1 + 0 + PhC (uA q4.2.1 20 (uN (q4.2.1.1 1902) - 1) rv) ≤ _; omega, by show q4.2.2.2 + 0 + PhS (uA q4.2.1 20 (uN (q4.2.1.1 1902) - 1) rv) ≤ _; omega⟩, Md_M md, fun _ => Md_E md, g, l, t, _, K2, K3, K4, m5.1, fun zz => ?_, fun zz => ?_⟩
    rotate_left
    · rcases h7 with y | y
      · exact absurd (y.2.2.2.1.trans ((eτ 1812).trans h0)) zz
      · exact Or.inl y.2.2.2.2
    have z0 : q4.2.1.1 1812 = 0 := zz
    rcases h7 with ⟨y1, y2, y3, y4, y5, y6⟩ | ⟨y1, y2, y3, y4⟩
    · have fe : ∀ j, ¬ (j = 1 ∨ j = 404 ∨ j = 1203 ∨ j = 1812 ∨ j = 1813 ∨ j = 1902 ∨ j = 1905) → q4.2.1.1 j = σ.1 j := fun j hj => (h3.1 j (by omega)).trans (eτ j)
      have hi1 : uN (q4.2.1.1 1902) = b + n + 3 := by rw [y1, eτ]; omega
      have hiT : uN (τ.1 1902) = b + n + 2 := by rw [eτ]; omega
      have hs : SL (Kw (Kw (Kw (Kw K (b + n) 1 none) (b + n + 1) 1 (some (rwN (n + 1)))) (uN (τ.1 1902)) 1 (some mkC)) (uN (q4.2.1.1 1902) - 1) 1 (some rv)) (uN (σ.1 1901) + 4) (uN (q4.2.1.1 1902)) 0 (d :: r) := by
        rw [hi1, hiT, show b + n + 3 - 1 = b + n + 2 by omega]
        refine ⟨fun cc => absurd cc (by omega), fun _ _ => ⟨b, n + 1, rv, by omega, SL_eq _ _ _ (fun p h1 h2 => ?_) a2, fun p h1 h2 => ?_, ?_, ?_, ⟨rvr, fun y => absurd y (by omega)⟩, fun p h1 h2 => absurd h2 (by omega)⟩, fun _ c5 => absurd hd c5⟩
        · rw [Kw_o (Or.inl (by omega)), Kw_o (Or.inl (by omega)), Kw_o (Or.inl (by omega)), Kw_o (Or.inl (by omega))]
        · rw [Kw_o (Or.inl (by omega)), Kw_o (Or.inl (by omega)), Kw_o (Or.inl (by omega))]
          rcases Nat.lt_or_ge p (b + n) with y | y
          · rw [Kw_o (Or.inl y)]; exact a3 p h1 y
          · exact Kw_i y (by omega)
        · rw [Kw_o (Or.inl (by omega)), Kw_o (Or.inl (by omega)), Kw_i (by omega) (by omega)]
        · exact Kw_i (by omega) (by omega)
      refine go_n (TyS_k (σ' := uA q4.2.1 20 (uN (q4.2.1.1 1902) - 1) rv) ty ⟨fe 1901 (by decide), fe 1815 (by decide), fe 1811 (by decide), fe 1908 (by decide)⟩ hs (fun p hp => ?_) ty.2.2.1 ty.2.2.2.2.2.2.2.2) w (y6.trans (eτ 1905)) (fe 1814 (by decide)) ?_
      · rw [Kw_o (Or.inl (by omega)), Kw_o (Or.inl (by omega)), Kw_o (Or.inl (by omega)), Kw_o (Or.inl (by omega))]
      · show Nx c (uN (q4.2.1.1 1900)) u 0 (d :: r) rk
        rw [fe 1900 (by decide)]; exact nx
    · rw [y3] at z0
      exact absurd z0 (by decide)
  have b2 : ∀ L' : LV, L'.1 1 = L.1 1 → L'.1 2 = nI n → Tm (fun k => f_X3_gatherIntoTuple k 2 L' σ) (fun q => q.1.1 = 0 ∧ IO c B KB f0 u0 σ (mu σ (qv nf sq rk)) ((0, 0), q.2.1, (q.2.2.1 + 0, q.2.2.2 + 0))) := by
    intro L' l1 l2
    refine Tm_suc (fun k => by rw [f_X3_gatherIntoTuple]) ?_
    refine Tm_op (c_size1 mi.1 (by show Gv g (L'.1 1); rw [l1]; exact gx)) (fun q z => ?_)
    have e : q.2 = σ := z.1
    rw [e]
    refine Tm_ite (fun _ => b3 _ l1 l2) (fun _ => Tm_ite (fun _ => b4 _) (fun _ => Tm_ite (fun _ => b3 _ l1 l2) (fun _ => b4 _)))
  refine Tm_suc (fun k => by rw [f_X3_gatherIntoTuple]) ?_
  refine Tm_chk i2 ?_
  rw [c2]
  refine Tm_op c_unraw (fun q5 z5 => ?_)
  rw [z5]
  refine Tm_chk i1 ?_
  refine Tm_op c_unraw (fun q6 z6 => ?_)
  rw [z6]
  have en : nI (uN ((lI lZ 0 (σ.2.2.1 20 (b + n))).1 0) % 268435456) = nI n := by
    show nI (uN (σ.2.2.1 20 (b + n)) % 268435456) = nI n
    rw [v1, unr (by omega)]
  rw [en]
  refine Tm_ite (fun _ => b1 _) (fun _ => Tm_ite (fun _ => Tm_ite (fun _ => b2 _ rfl rfl) (fun _ => b1 _)) (fun _ => b2 _ rfl rfl))
end CTP
end JnS404
