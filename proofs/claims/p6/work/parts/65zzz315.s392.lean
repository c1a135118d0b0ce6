/-! The class: the next member, names (exps). -/
section CTD
variable {g g' g2 : Nat → Prop} {l l' l2 : List Nat} {t t' t2 : Nat} {σ σ' σ2 : CS} {L : LV} {x y i : Int32} {M M' U U' : Nat → Int32} {K K' K2 K2' K3 K4 K4' KB : Nat → Option Int32} {c : Ct} {B f0 u0 : Nat} {fs : List FrT} {u d : Nat} {r r' : List Nat} {pb nf nc sq rk : Nat}
theorem c_nextMember23 (p : Pre c g l t K K2 K3 K4 B KB f0 u0 σ fs u d r pb nf nc sq) {pc n : Nat} (h2 : uN (L.1 2) = pb + n) (h3 : L.1 3 = nI pc) (h4 : L.1 4 = 0) (hm : HasM (bsl + n) r) (hn : n + 1 < 180) (ha : AllM (fun i => bsl ≤ i → ¬ (i - bsl) % 500000 = n + 1) r) (hp : pc + 1 < tcN c) (hN : tcN c ≤ 36864) (hr : Mrl (fun i s => i ∈ s) r' r) (nE : Nx c (uN (nI pc + tcC c (pc + 1))) u d r' rk) (nS : NxS c (pc + 2) u (d + 1) r) : Tm (fun k => f_X3_nextMember__a23 k 0 L σ) (fun q => q.1.1 = 0 ∧ IO c B KB f0 u0 σ (mu σ (qv nf sq rk)) ((0, 0), q.2.1, (q.2.2.1 + 0, q.2.2.2 + 0))) := by
  have mi := p.1
  have ty := p.2.1
  have v2 := mi.2.1.2.1
  have fbb := (FC_b _ _ _ _ _ _ _ ty.2.1).1
  have n20 := ty.2.2.2.1.2
  have mk := PaM_has (show n < 500000 by omega) r ty.2.2.2.2.2.2.2.2 hm
  have e21 : uN (L.1 2 + 1) = pb + n + 1 := by rw [u_inc (by omega), h2]
  have c2 : (L.1 2).toNatClampNeg = pb + n := by rw [u_cl (by omega)]; exact h2
  have c21 : (L.1 2 + 1).toNatClampNeg = pb + n + 1 := by rw [u_cl (by omega)]; exact e21
  have gr := Rwk_v v2 (j := pb + n) (by omega) (Or.inr mk.2)
  have nw : NoW (σ.2.2.1 3) (σ.2.2.1 23 (pb + n)) := by
    rcases (v2 (pb + n) (by omega)).2.2 _ mk.2 with z | z
    · exact absurd rfl (mk_nr z.2)
    · exact (mk_w z).2
  have ll := lnC_lt (σ.2.2.1 3) (σ.2.2.1 23 (pb + n))
  have e3 : uN (L.1 3) = pc := by rw [h3, u_n (by omega)]
  have u2 : uN (2 : Int32) = 2 := rfl
  refine Tm_suc (fun k => by rw [f_X3_nextMember__a23]) ?_
  refine Tm_chk (u_in (x := L.1 2) (by omega) (by decide)) ?_
  refine Tm_chk (u_in (x := L.1 2 + 1) (by omega) (by decide)) ?_
  refine Tm_op c_unraw (fun q1 z1 => ?_)
  rw [z1]
  refine Tm_op (c_length mi.1 (by show Gv g (σ.2.2.1 23 (L.1 2).toNatClampNeg); rw [c2]; exact gr)) (fun q2 z2 => ?_)
  rw [z2]
  generalize hx : nI (uN ((lI lZ 0 (σ.2.2.1 23 (L.1 2 + 1).toNatClampNeg)).1 0) % 268435456) = nx
  have xl : uN nx < 268435456 := by rw [← hx, u_n (by omega)]; omega
  have el : (lI lZ 1 (σ.2.2.1 23 (L.1 2).toNatClampNeg)).1 1 = σ.2.2.1 23 (pb + n) := by rw [← c2]; rfl
  rw [el]
  refine Tm_ite (fun cl => ?_) (fun _ => ?_)
  · have cl' : nx < nI (lnC (σ.2.2.1 3) (σ.2.2.1 23 (pb + n))) := cl
    rw [u_ltn (by omega) (by rw [u_n (by omega)]; omega), u_n (by omega)] at cl'
    refine Tm_suc (fun k => by rw [f_X3_nextMember__a23]) ?_
    refine Tm_op c_raw (fun q3 z3 => ?_)
    rw [z3]
    refine Tm_chk (u_in (x := L.1 2 + 1) (by omega) (by decide)) ?_
    generalize hv : rwN (uN ((lI lZ 0 ((lI (lI L 5 (σ.2.2.1 23 (L.1 2).toNatClampNeg)) 6 nx).1 6 + 1)).1 0) % 268435456) = rv
    have rvr : Rr rv := by rw [← hv]; exact rwN_r (by omega)
    have p1 := Pre_23 (x := rv) (j := pb + n + 1) (mk := some mkC) p ⟨by omega, by omega⟩ (Or.inr (Or.inr ⟨rfl, Gw_rr rvr⟩)) (Mrl_rf _ ha) (fun i s q b => q.1) (fun i s q b => Or.inl ⟨q.1, by have := q.2 b; omega⟩)
    show Tm (fun k => Jvm.Pilot.CSetHouseLaw_law_r7351_1de140.op (y_X1_taken k 0 (lI (lI lZ 1 (σ.2.2.1 23 (L.1 2).toNatClampNeg)) 2 nx) (uA σ 23 (L.1 2 + 1).toNatClampNeg rv)) (fun r3 => ox (f_X3_push k 0 (lI lZ 1 r3.1) r3.2) (fun r4 => f_X3_nextMember__a23 k 2 (lI (lI L 5 (σ.2.2.1 23 (L.1 2).toNatClampNeg)) 6 nx) (uI r4.2.1 1900 (L.1 3 + 2))))) _
    rw [c2, c21]
    obtain ⟨p1, g1⟩ := p1
    generalize hτ : uA σ 23 (pb + n + 1) rv = τ at *
    have τ3 : τ.2.2.1 3 = σ.2.2.1 3 := by rw [← hτ]; rfl
    refine Tm_op (c_taken p1.1.1 gr ?_) (fun q4 z4 => ?_)
    · show (kdC (τ.2.2.1 3) (σ.2.2.1 23 (pb + n)) = 4 ∧ uN nx < lnC (τ.2.2.1 3) (σ.2.2.1 23 (pb + n))) ∨ 5 ≤ kdC (τ.2.2.1 3) (σ.2.2.1 23 (pb + n))
      rw [τ3]
      generalize σ.2.2.1 23 (pb + n) = h at *
      by_cases lt : uN h < 2147483648
      · have cg := (HQ_c mi.1 (Gv_c gr lt).2).2.2.2.2.2.2.1
        have n2 := nw lt
        unfold kdC
        rw [if_pos lt]
        rcases cg with e | e | e | e
        · exact absurd e n2
        · exact Or.inl ⟨e, cl'⟩
        · exact Or.inr (by omega)
        · exact Or.inr (by omega)
      · unfold lnC at cl' ⊢
        unfold kdC
        rw [if_neg lt] at cl' ⊢
        rw [if_neg lt]
        by_cases e12 : uN h / 268435456 = 12
        · rw [if_pos e12] at cl' ⊢
          exact Or.inl ⟨by omega, cl'⟩
        · rw [if_neg e12] at cl'
          omega
    · have e4 : q4.2 = τ := z4.1
      rw [e4]
      have st' := p1.1.2.1.1
      refine Tm_oxc (c_push st'.1 st'.2.1) (fun q z => by rw [z.1]) (fun q5 z5 => ?_)
      refine Tm_suc (fun k => by rw [f_X3_nextMember__a23]) ?_
      refine Tm_op c_spend (fun q6 e6 => ?_)
      rw [e6]
      refine Tm_some ⟨rfl, ?_⟩
      rw [← mu_e g1.2.2.2.1 g1.2.2.2.2.1]
      refine IO_g g1 (pu_sp (v := L.1 3 + 2) p1 z4.2 z5 ?_ _)
      rw [u_add (by omega), e3, u2]
      exact nS
  · refine Tm_op (c_letGo23 p hn h2 h4 ha) (fun q3 z3 => ?_)
    obtain ⟨K4', pl, gl, fl⟩ := z3
    obtain ⟨b, eb, _⟩ := pl.1.2.2.1
    have cr := Ct_row pl.1.2.2.1 eb
    have e31 : uN (L.1 3 + 1) = pc + 1 := by rw [u_inc (by omega), e3]
    refine Tm_oP eb ?_
    refine Tm_chk (u_in (by rw [e31, cr.2.1]; exact hp) (by rw [cr.2.1]; omega)) ?_
    rw [u_cl (by omega), e31, cr.1]
    refine Tm_some ⟨rfl, ?_⟩
    have ps := Pre_sb pl hr (fun i s q => q)
    refine fl_go (σ' := uI q3.2 1900 (L.1 3 + tcC c (pc + 1))) ps gl rfl (fun j hj => upd_other hj) ?_
    show Nx c (uN (L.1 3 + tcC c (pc + 1))) u d r' rk
    rw [h3]
    exact nE
/-- names are set, or it halts -/
def SpO (c : Ct) (g : Nat → Prop) (l : List Nat) (t : Nat) (K K2 K3 : Nat → Option Int32) (B : Nat) (KB : Nat → Option Int32) (f0 u0 : Nat) (fs : List FrT) (u d : Nat) (r : List Nat) (pb nf nc sq n m : Nat) (σ : CS) (q : Int32 × CS) : Prop := ∃ (σ1 : CS) (K4 : Nat → Option Int32), Pre c g l t K K2 K3 K4 B KB f0 u0 σ1 fs u d r pb nf nc sq ∧ Go c u0 σ σ1 ∧ ((q.2 = σ1 ∧ ∀ k, k < m → K4 (pb + n + k) = none) ∨ (q.2.2 = σ1.2 ∧ (∀ j, ¬ (j = 1812 ∨ j = 1813) → q.2.1 j = σ1.1 j) ∧ q.2.1 1812 = 1 ∧ ¬ q.2.1 1813 = 0))
theorem SpO_io {n m : Nat} {q : Int32 × CS} {v : Int32} (hn : n + m ≤ 180) (h : SpO c g l t K K2 K3 B KB f0 u0 fs u d r pb nf nc sq n m σ q) (hr : Mrl (fun i s => i ∈ s ∨ (bsl + 500000 + n ≤ i ∧ i < bsl + 500000 + n + m)) r' r) (nx : Nx c (uN v) u d r' rk) : IO c B KB f0 u0 σ (mu σ (qv nf sq rk)) ((0, 0), uI q.2 1900 v, (0, 0)) := by
  obtain ⟨σ1, K4, p, a, ⟨h, hk⟩ | ⟨h1, h2, h3⟩⟩ := h
  · rw [h]
    have p' := Pre_av p hr (fun i s q b => by
      rcases q with q | q
      · exact Or.inl q
      · exact absurd b (by omega)) (fun i s q b => by
      rcases q with q | q
      · exact Or.inl q
      · right
        have z := hk (i - bsl - 500000 - n) (by omega)
        have e1 : (i - bsl) % 500000 = i - bsl - 500000 := by omega
        rw [e1, show pb + (i - bsl - 500000) = pb + n + (i - bsl - 500000 - n) by omega, z]
        exact ⟨by omega, Mkk_n (by omega)⟩)
    exact fl_go p' a rfl (fun j hj => upd_other hj) nx
  · refine ha_go p a h1 (fun j hj => ?_) ?_ ?_
    · show upd q.2.1 1900 v j = _
      rw [upd_other (by omega)]
      exact h2 j (by omega)
    · show upd q.2.1 1900 v 1812 = 1
      rw [upd_other (by decide)]
      exact h3.1
    · show ¬ upd q.2.1 1900 v 1813 = 0
      rw [upd_other (by decide)]
      exact h3.2
theorem c_spread23 (p : Pre c g l t K K2 K3 K4 B KB f0 u0 σ fs u (d + 1) r pb nf nc sq) (fb : tcF c u ≤ bt d r) {n m : Nat} (hn : n + m ≤ 180) (h2 : uN (L.1 2) = pb + n) (h3 : uN (L.1 3) = m) (h4 : L.1 4 = 0) (h13 : σ.1 1813 = 0) (hr : Mrl (fun i s => i ∈ s) r' r) (ha : AllM (fun i => ¬ (bsl + n ≤ i ∧ i < bsl + n + m)) r') : Tm (fun k => y_X3_spread__a23 k 0 L σ) (SpO c g l t K K2 K3 B KB f0 u0 fs u d r' pb nf nc sq n m σ) := by
  have mi := p.1
  have ty := p.2.1
  obtain ⟨st1, st2, st3⟩ := mi.2.1.1
  have ts := TyS_sp ty
  have fbb := (FC_b _ _ _ _ _ _ _ ty.2.1).1
  have n20 := ty.2.2.2.1.2
  have gh := (Ty_v p (q := (uN (σ.1 1902) - 1)) (by omega) (by omega))
  obtain ⟨pd0, es⟩ := Pre_dr (x := 1) (d' := d) (n := 1) p rfl rfl fb
  have pd := Pre_sb pd0 hr (fun i s q => q)
  have kl := kdC_lt (σ.2.2.1 3) (σ.2.2.1 20 (uN (σ.1 1902) - 1))
  have b1 : ∀ L' : LV, Tm (fun k => y_X3_spread__a23 k 1 L' (uI σ 1902 (σ.1 1902 - 1))) (SpO c g l t K K2 K3 B KB f0 u0 fs u d r' pb nf nc sq n m σ) := by
    intro L'
    refine Tm_suc (fun k => by rw [y_X3_spread__a23]) ?_
    refine Tm_oc c_fail (fun q2 e2 => ?_)
    rw [e2]
    refine Tm_some ⟨_, K4, pd, Go_dr σ _, Or.inr ⟨rfl, fun j hj => ?_, rfl, f13 (by decide)⟩⟩
    show upd (upd (upd σ.1 1902 _) 1813 _) 1812 1 j = upd σ.1 1902 _ j
    rw [upd_other (by omega), upd_other (by omega)]
  have b4 : ∀ (L' : LV) (τ : CS) (K4' : Nat → Option Int32), Pre c g l t K K2 K3 K4' B KB f0 u0 τ fs u d r' pb nf nc sq → Go c u0 σ τ → (∀ k, k < m → K4' (pb + n + k) = none) → Tm (fun k => y_X3_spread__a23 k 4 L' τ) (SpO c g l t K K2 K3 B KB f0 u0 fs u d r' pb nf nc sq n m σ) := by
    intro L' τ K4' pt gt hk
    refine Tm_suc (fun k => by rw [y_X3_spread__a23]) ?_
    exact Tm_some ⟨τ, K4', pt, gt, Or.inl ⟨rfl, hk⟩⟩
  have b3 : kdC (σ.2.2.1 3) (σ.2.2.1 20 (uN (σ.1 1902) - 1)) = 5 → ∀ (k : Nat) (L' : LV) (τ : CS) (K4' : Nat → Option Int32), Pre c g l t K K2 K3 K4' B KB f0 u0 τ fs u d r' pb nf nc sq → Go c u0 σ τ → τ.1 1813 = 0 → (∀ k, k < uN (L'.1 6) → K4' (pb + n + k) = none) → τ.2.2.1 3 = σ.2.2.1 3 → uN (L'.1 6) + k = m → L'.1 2 = L.1 2 → L'.1 3 = L.1 3 → L'.1 4 = 0 → L'.1 5 = σ.2.2.1 20 (uN (σ.1 1902) - 1) → Tm (fun k => y_X3_spread__a23 k 3 L' τ) (SpO c g l t K K2 K3 B KB f0 u0 fs u d r' pb nf nc sq n m σ) := by
    intro k5 k
    induction k with
    | zero =>
      intro L' τ K4' pt gt e13 hk t3 l6 l2 l3 l4 l5
      refine Tm_suc (fun k => by rw [y_X3_spread__a23]) ?_
      exact Tm_yes (by rw [l3, u_le (by omega) (by omega)]; omega) (b4 _ _ _ pt gt (fun k hk' => hk k (by omega)))
    | succ k ih =>
      intro L' τ K4' pt gt e13 hk t3 l6 l2 l3 l4 l5
      have sq5 : Sq5 g τ (L'.1 5) := by
        refine Sq5_k (by rw [l5]; exact gh) ?_
        rw [t3, l5]; omega
      have ea : uN (L'.1 2 + L'.1 6) = pb + n + uN (L'.1 6) := by rw [l2, u_add (by omega), h2]
      refine Tm_suc (fun k => by rw [y_X3_spread__a23]) ?_
      refine Tm_no (by rw [l3, u_le (by omega) (by omega)]; omega) ?_
      refine Tm_yes e13 ?_
      refine Tm_yes l4 ?_
      refine Tm_suc (fun k => by rw [y_X3_spread__a23]) ?_
      refine Tm_ocE (c_member pt.1.1 sq5.1 sq5.2) ?_
      refine Tm_chk (u_in (x := L'.1 2 + L'.1 6) (by omega) (by decide)) ?_
      rw [u_cl (by omega), ea]
      have p1 := Pre_23 (x := mbC (τ.2.2.1 3) (L'.1 5) (L'.1 6)) (j := pb + n + uN (L'.1 6)) (mk := none) pt ⟨by omega, by omega⟩ (Or.inl ⟨rfl, mbC_g pt.1.1 sq5.1 sq5.2⟩) (Mrl_rf _ ha) (fun i s q b => q.1) (fun i s q b => by
        by_cases y : pb + (i - bsl) % 500000 = pb + n + uN (L'.1 6)
        · right
          exact ⟨by omega, y, Mkk_n (by have := q.2; omega)⟩
        · exact Or.inl ⟨q.1, y⟩)
      refine Tm_suc (fun k => by rw [y_X3_spread__a23]) ?_
      refine ih _ _ _ p1.1 (Go_t gt p1.2) e13 ?_ t3 ?_ l2 l3 l4 l5
      · show ∀ k, k < uN (L'.1 6 + 1) → Kw K4' (pb + n + uN (L'.1 6)) 1 none (pb + n + k) = none
        rw [u_inc (by omega)]
        intro k hk'
        by_cases y : k = uN (L'.1 6)
        · rw [y]; exact Kw_i (Nat.le_refl _) (by omega)
        · rw [Kw_o (by omega)]; exact hk k (by omega)
      · show uN (L'.1 6 + 1) + k = m
        rw [u_inc (by omega)]; omega
  refine Tm_suc (fun k => by rw [y_X3_spread__a23]) ?_
  refine Tm_oc (c_pop (by omega) st1 st2.2) (fun q e => ?_)
  rw [e.1]
  refine Tm_ocE (c_kind pd.1.1 gh) ?_
  refine Tm_ite (fun c5 => ?_) (fun _ => b1 _)
  have k5 : kdC (σ.2.2.1 3) (σ.2.2.1 20 (uN (σ.1 1902) - 1)) = 5 := kd_n (n := 5) (by decide) c5
  refine Tm_ocE (c_length pd.1.1 gh) ?_
  refine Tm_ite (fun _ => ?_) (fun _ => b1 _)
  refine Tm_suc (fun k => by rw [y_X3_spread__a23]) ?_
  exact b3 k5 m _ _ K4 pd (Go_dr σ _) h13 (fun k hk => absurd hk (Nat.not_lt_zero k)) rfl (by show 0 + m = m; omega) rfl rfl h4 rfl
end CTD
