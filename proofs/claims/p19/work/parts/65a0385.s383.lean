section JnS383
/-! The class: instructions that put values upon the stack. -/
section CSU
variable {g g' g2 : Nat → Prop} {l l' l2 : List Nat} {t t' t2 : Nat} {σ σ' σ2 : CS} {L : LV} {x y i : Int32} {M M' U U' : Nat → Int32} {K K' K2 K3 K4 KB : Nat → Option Int32} {c : Ct} {B f0 u0 : Nat} {fs : List FrT} {u d : Nat} {r : List Nat} {pb nf nc sq rk : Nat}
/-- a literal that holds in every heap -/
def LitG (w : Int32) : Prop := (2147483648 ≤ uN w ∧ uN w < 3489660928) ∨ uN w < 3
theorem Lit_g (h : HQ g l t σ) (w : LitG x) : Gv g x := by
  rcases w with z | z
  · exact Or.inl ⟨z.1, Or.inl z.2⟩
  · refine Or.inr ⟨by omega, ?_⟩
    rcases (show uN x = 0 ∨ uN x = 1 ∨ uN x = 2 by omega) with e | e | e <;> rw [e]
    · exact h.2.2.2.1.1
    · exact h.2.2.2.1.2.1
    · exact h.2.2.2.1.2.2
/-- a literal's cell -/
def LitC (C : Nat → Int32) (s n : Nat) : Prop := uN (C s) < 2147483648 ∧ n = 1 + hdW (uN (C s)) ∧ (hdK (uN (C s)) = 2 ∨ hdK (uN (C s)) = 4) ∧ (hdT (uN (C s)) ≤ 30 ∧ 1 ≤ hdS (uN (C s))) ∧ (hdK (uN (C s)) = 2 → 1 ≤ hdL (uN (C s)) ∧ hdL (uN (C s)) ≤ 32)
theorem c_makeCopy (h : HQ g l t σ) {C : Nat → Int32} (hC : σ.2.2.1 (pR0 (L.2.2.1 1)) = C) (hN : sN σ (pR0 (L.2.2.1 1)) ≤ 1000000) (hs : uN (L.1 2) + uN (L.1 3) ≤ sN σ (pR0 (L.2.2.1 1))) (lc : LitC C (uN (L.1 2)) (uN (L.1 3))) : Tm (fun k => y_X1_makeCopy__A0 k 0 L σ) (Va g t σ) := by
  have nn := HQ_n h
  have tt := h.2.1
  have et : uN (σ.1 1) = t := by rw [h.1, u_n (by omega)]
  have es : uN (Int32.ofNat (sN σ 3) - σ.1 1) = sN σ 3 - t := by
    have e1 : uN (Int32.ofNat (sN σ 3)) = sN σ 3 := u_n (by omega)
    rw [u_sub (by omega), e1, et]
  obtain ⟨l1, l2, l3, l4, l5⟩ := lc
  refine Tm_suc (fun k => by rw [y_X1_makeCopy__A0]) ?_
  refine Tm_ite (fun c0 => ?_) (fun c0 => Tm_some (Va_e h (AXf_r σ) (by show 4026531840 ≤ uN (-268435450) ∧ ¬ uN (-268435450) % 16 = 0; decide)))
  rw [u_le (by omega) (by omega), es] at c0
  have ea : uN (σ.1 1 + L.1 3) = t + uN (L.1 3) := by rw [u_add (by omega), et]
  refine Tm_suc (fun k => by rw [y_X1_makeCopy__A0]) ?_
  refine Tm_chk ⟨?_, ?_, ?_, ?_, ?_⟩ ?_
  · show ¬ L.1 2 < 0
    rw [u_neg]; omega
  · show ¬ σ.1 1 < 0
    rw [u_neg]; omega
  · show ¬ L.1 3 < 0
    rw [u_neg]; omega
  · show (L.1 2).toNatClampNeg + (L.1 3).toNatClampNeg ≤ sN σ (pR0 (L.2.2.1 1))
    rw [u_cl (by omega), u_cl (by omega)]; exact hs
  · show (σ.1 1).toNatClampNeg + (L.1 3).toNatClampNeg ≤ sN σ 3
    rw [u_cl (by omega), u_cl (by omega)]; omega
  have e4 : (lI L 4 (σ.1 1)).1 4 = σ.1 1 := rfl
  have hv : σ.1 1 + L.1 3 = nI (t + 1 + hdW (uN (C (uN (L.1 2))))) := by
    rw [u_of (σ.1 1 + L.1 3), ea]; congr 1; omega
  have e0 : va_cpy C (σ.2.2.1 3) (uN (L.1 2)) t (uN (L.1 3)) t = C (uN (L.1 2)) := by
    unfold va_cpy
    rw [if_pos (by omega), Nat.sub_self, Nat.add_zero]
  have hm : ∀ p, p < t → va_cpy C (σ.2.2.1 3) (uN (L.1 2)) t (uN (L.1 3)) p = σ.2.2.1 3 p := by
    intro p hp
    unfold va_cpy
    rw [if_neg (by omega)]
  have hn := HQ_new (M' := va_cpy C (σ.2.2.1 3) (uN (L.1 2)) t (uN (L.1 3))) h hm (by rw [e0]; omega) (by
    unfold CGo
    rw [e0]
    exact ⟨l1, by omega, by omega, l4, l5, fun k => absurd k (by omega), fun k => absurd k (by omega)⟩)
  rw [e0] at hn
  have eS : uF (uI σ 1 (σ.1 1 + L.1 3)) 3 (va_cpy ((uI σ 1 (σ.1 1 + L.1 3)).2.2.1 (pR0 (L.2.2.1 1))) ((uI σ 1 (σ.1 1 + L.1 3)).2.2.1 3) (L.1 2).toNatClampNeg (σ.1 1).toNatClampNeg (L.1 3).toNatClampNeg) = hpC σ (t + 1 + hdW (uN (C (uN (L.1 2))))) (va_cpy C (σ.2.2.1 3) (uN (L.1 2)) t (uN (L.1 3))) := by
    rw [← hpC_u σ hv]
    rw [u_cl (x := L.1 2) (by omega), u_cl (x := σ.1 1) (by omega), u_cl (x := L.1 3) (by omega), et]
    show uF _ 3 (va_cpy (σ.2.2.1 (pR0 (L.2.2.1 1))) (σ.2.2.1 3) _ _ _) = _
    rw [hC]
  refine Tm_some ?_
  show Va g t σ (σ.1 1, uF (uI σ 1 (σ.1 1 + L.1 3)) 3 (va_cpy ((uI σ 1 (σ.1 1 + L.1 3)).2.2.1 (pR0 (L.2.2.1 1))) ((uI σ 1 (σ.1 1 + L.1 3)).2.2.1 3) (L.1 2).toNatClampNeg (σ.1 1).toNatClampNeg (L.1 3).toNatClampNeg))
  rw [eS]
  refine Va_M (kd := hdK (uN (C (uN (L.1 2))))) h (AXf_r σ) ⟨_, _, _, _, rfl, hn, fun p hp => Or.inl hp, hm, by omega, Or.inl ⟨Or.inr ⟨by show uN (σ.1 1) < _; omega, Or.inr et⟩, ?_⟩⟩
  show kdC _ (σ.1 1) = _
  unfold kdC
  rw [if_pos (by omega), et, e0]
theorem Tm_oP {o : Option Bool} {b : Bool} {f : Nat → Bool → Option RS} {Q : RS → Prop} (e : o = some b) (h : Tm (fun k => f k b) Q) : Tm (fun k => oP o (f k)) Q := by
  rw [e]; exact h
/-- the code is where it should be -/
theorem Ct_row {b : Bool} (h : CtL c σ) (e : sPr σ = some b) : σ.2.2.1 (pR0 (sKd σ b)) = tcC c ∧ sN σ (pR0 (sKd σ b)) = tcN c ∧ ∀ u, u < 42 → uN (σ.2.2.1 (pR13 b) u) = tcE c u ∧ uN (σ.2.2.1 (pR14 b) u) = tcP c u ∧ uN (σ.2.2.1 (pR18 b) u) = tcF c u := by
  obtain ⟨b', h1, h2, h3, h4⟩ := h
  rw [e] at h1
  have eb : b = b' := Option.some.inj h1
  subst eb
  exact ⟨h2, h3, h4⟩
def Ok2 (c : Ct) (pc u d : Nat) (r : List Nat) (rk op : Nat) (num : Int32) : Prop := (op = 32 → pc + 1 < tcN c ∧ LitG (tcC c (pc + 1)) ∧ Nx c (pc + 2) u (d + 1) r rk) ∧ (op = 33 → pc + 1 < tcN c ∧ LitG (tcC c (pc + 1)) ∧ NxS c (pc + 2) u (d + 1) r) ∧ (op = 34 → pc + 1 + uN num ≤ tcN c ∧ LitC (tcC c) (pc + 1) (uN num) ∧ NxS c (pc + 1 + uN num) u (d + 1) r) ∧ (op = 35 → (uN num < 500000 ∧ HasM (500000 + uN num) r) ∧ Nx c (pc + 1) u (d + 1) r rk) ∧ (op = 36 → uN num < tcF c 0 ∧ Nx c (pc + 1) u (d + 1) r rk) ∧ (op = 37 → ∃ d' r', Drp (uN num) d r d' r' ∧ Nx c (pc + 1) u d' r' rk) ∧ (op = 38 → uN num < d ∧ Nx c (pc + 1) u (d + 1) r rk) ∧ (op = 39 → 2 ≤ d ∧ Nx c (pc + 1) u d r rk) ∧ (op = 41 → (uN num < 180 ∧ HasM (bsl + 500000 + uN num) r) ∧ Nx c (pc + 1) u (d + 1) r rk) ∧ (op = 42 → uN num ≤ 1000 ∧ Nx c (pc + 1) u (d + uN num) r rk) ∧ (op = 40 ∨ 43 ≤ op → 1 ≤ d ∧ NxS c (pc + 1) u d r)
theorem Tm_e {α : Type} {f : Nat → Option α} {Q Q' : α → Prop} (h : Tm f Q) (i : ∀ r, Q r → Q' r) : Tm f Q' := Tm_mono h i
theorem op_n {op n : Nat} (ho : op < 256) (hn : n < 256) : (nI op = nI n) ↔ op = n := by
  rw [u_eq, u_n (by omega), u_n (by omega)]
theorem upd_id (f : Nat → Int32) (i : Nat) : upd f i (f i) = f := by
  funext j
  by_cases z : j = i
  · rw [z, upd_same]
  · rw [upd_other z]
/-- work alone, as if the top were given anew -/
theorem Re_sp {n : Int32} (h1 : 1 ≤ uN n) (h2 : uN n < 1024) (w : uN (σ.1 1905) ≤ 60000) : ReO σ (σ.2.2.1 20 (uN (σ.1 1902) - 1)) (spS σ n) := by
  have s := spS_s σ n
  refine ⟨spS_m σ n, ⟨s.2.1, by rw [s.1], by rw [s.1]⟩, s.2.2, Or.inr ⟨?_, ⟨trivial, spS_13 σ n⟩, spS_w h1 h2 w⟩⟩
  rw [s.1, upd_id]
theorem c_data (p : Pre c g l t K K2 K3 K4 B KB f0 u0 σ fs u d r pb nf nc sq) {pc op : Nat} (ho : op < 256) (h32 : 32 ≤ op) (h1 : L.1 1 = nI op) (h3 : L.1 3 = nI pc) (hp : pc + 1 ≤ tcN c) (hN : tcN c ≤ 36864) (hpc : σ.1 1900 = nI (pc + 1)) (ok : Ok2 c pc u d r rk op (L.1 2)) : Tm (fun k => f_X3_data k 0 L σ) (IO c B KB f0 u0 σ (mu σ (qv nf sq rk))) := by
  have mi := p.1
  have ty := p.2.1
  have w := p.2.2.1
  obtain ⟨st1, st2, st3⟩ := mi.2.1.1
  have ts := TyS_sp ty
  have tb := TyS_B ty
  have b12 : ∀ (σ' : CS) (L' : LV) (Q : RS → Prop), Q ((0, 0), σ', (0, 0)) → Tm (fun k => f_X3_data k 12 L' σ') Q := by
    intro σ' L' Q h
    refine Tm_suc (fun k => by rw [f_X3_data]) ?_
    exact Tm_some h
  have e3 : uN (L.1 3) = pc := by rw [h3, u_n (by omega)]
  have e31 : uN (L.1 3 + 1) = pc + 1 := by rw [u_inc (by omega), e3]
  have u2 : uN (2 : Int32) = 2 := rfl
  have u4 : uN (4 : Int32) = 4 := rfl
  have u1 : uN (1 : Int32) = 1 := rfl
  have e32 : uN (L.1 3 + 2) = pc + 2 := by rw [u_add (by omega), e3, u2]
  obtain ⟨b, eb, _⟩ := mi.2.2.1
  have cr := Ct_row mi.2.2.1 eb
  obtain ⟨o32, o33, o34, o35, o36, o37, o38, o39, o41, o42, o40⟩ := ok
  -- a push of a value, then on
  have pu : ∀ (x : Int32) (v : Int32), Gv g x → Nx c (uN v) u (d + 1) r rk → Tm (fun k => ox (f_X3_push k 0 (lI lZ 1 x) σ) (fun r3 => f_X3_data k 12 L (uI r3.2.1 1900 v))) (IO c B KB f0 u0 σ (mu σ (qv nf sq rk))) := by
    intro x v gx nx
    refine Tm_oxc (c_push st1 st2) (fun q z => by rw [z.1]) (fun q z => ?_)
    exact b12 _ _ _ (pu_fin (n := 1) p gx z rfl (fun j hj => upd_other hj) nx)
  have pu2 : ∀ (x : Int32), Gv g x → Nx c (pc + 1) u (d + 1) r rk → Tm (fun k => ox (f_X3_push k 0 (lI lZ 1 x) σ) (fun r3 => f_X3_data k 12 L r3.2.1)) (IO c B KB f0 u0 σ (mu σ (qv nf sq rk))) := by
    intro x gx nx
    refine Tm_oxc (c_push st1 st2) (fun q z => by rw [z.1]) (fun q z => ?_)
    refine b12 _ _ _ (pu_fin (n := 1) p gx z rfl (fun _ _ => rfl) ?_)
    rw [z.2.2.1.1 1900 (by decide), hpc, u_n (by omega)]
    exact nx
  have gi : ∀ (g' : Nat → Prop) (l' : List Nat) (t' : Nat) (σ' : CS) (x : Int32) (v : Int32), Ga g t σ g' l' t' σ' → Gv g' x → NxS c (uN v) u (d + 1) r → Tm (fun k => ox (f_X3_give k 0 (lI lZ 1 x) σ') (fun r3 => f_X3_data k 12 L (uI r3.2.1 1900 v))) (IO c B KB f0 u0 σ (mu σ (qv nf sq rk))) := by
    intro g' l' t' σ' x v ga gx nx
    have p' := Pre_Ga p ga
    have st' := p'.1.2.1.1
    have ts' := TyS_sp p'.2.1
    refine Tm_oxc (c_give p'.1.1 gx (by omega) st'.1 st'.2.1 p'.2.2.1) (fun q z => by rw [z.1]) (fun q z => ?_)
    refine b12 _ _ _ ?_
    have md : Md σ σ' := Md_S (Sm_A ga.2.2.2.2)
    rw [← mu_e (ga.2.2.2.2.1 1905 (by decide)) (ga.2.2.2.2.1 1814 (by decide))]
    exact IO_b md (by rw [ga.2.2.2.2.2.2.2]) (gi_fin (σ' := uI q.2.1 1900 v) p' gx z rfl (fun j hj => upd_other hj) nx _)
  have b9 : 1 ≤ d → NxS c (pc + 1) u d r → Tm (fun k => f_X3_data k 9 L σ) (IO c B KB f0 u0 σ (mu σ (qv nf sq rk))) := by
    intro k1 k2
    have ea : uN (σ.1 1902 - 1) = uN (σ.1 1902) - 1 := by rw [u_sub (by omega), u1]
    have gt := Ty_v p (q := uN (σ.1 1902) - 1) (by omega) (by omega)
    refine Tm_suc (fun k => by rw [f_X3_data]) ?_
    refine Tm_chk (u_in (by omega) (by omega)) ?_
    refine Tm_op (c_size1 mi.1 (by show Gv g (σ.2.2.1 20 (σ.1 1902 - 1).toNatClampNeg); rw [u_cl (by omega), ea]; exact gt)) (fun q2 z => ?_)
    have e2 : q2.2 = σ := z.1
    rw [e2]
    refine Tm_op c_spend (fun q3 e3' => ?_)
    rw [e3']
    refine b12 _ _ _ (re_fin (σ' := spS σ q2.1) p k1 gt (Re_sp z.2.1 z.2.2 w) rfl (fun _ _ => rfl) ?_ _)
    have e19 : (spS σ q2.1).1 1900 = σ.1 1900 := (spS_m σ q2.1).1 1900 (by decide)
    rw [e19, hpc, u_n (by omega)]
    exact k2
  refine Tm_suc (fun k => by rw [f_X3_data]) ?_
  rw [h1]
  refine Tm_ite (fun q => ?_) (fun q1 => Tm_ite (fun q => ?_) (fun q2 => Tm_ite (fun q => ?_) (fun q3 => Tm_ite (fun q => ?_) (fun q4 => Tm_ite (fun q => ?_) (fun q5 => Tm_ite (fun q => ?_) (fun q6 => Tm_ite (fun q => ?_) (fun q7 => Tm_ite (fun q => ?_) (fun q8 => Tm_ite (fun q => ?_) (fun q9 => Tm_ite (fun q => ?_) (fun q10 => Tm_ite (fun q => ?_) (fun q11 => ?_)))))))))))
  · obtain ⟨k1, k2, k3⟩ := o32 ((op_n ho (by decide)).1 q)
    refine Tm_suc (fun k => by rw [f_X3_data]) ?_
    refine Tm_oP eb ?_
    refine Tm_chk (u_in (by rw [e31, cr.2.1]; exact k1) (by rw [cr.2.1]; omega)) ?_
    rw [u_cl (by omega), e31, cr.1]
    exact pu _ _ (Lit_g mi.1 k2) (by rw [e32]; exact k3)
  · obtain ⟨k1, k2, k3⟩ := o33 ((op_n ho (by decide)).1 q)
    refine Tm_suc (fun k => by rw [f_X3_data]) ?_
    refine Tm_oP eb ?_
    refine Tm_chk (u_in (by rw [e31, cr.2.1]; exact k1) (by rw [cr.2.1]; omega)) ?_
    rw [u_cl (by omega), e31, cr.1]
    exact gi g l t σ _ _ (Ga_X mi.1 (AXf_r σ)) (Lit_g mi.1 k2) (by rw [e32]; exact k3)
  · obtain ⟨k1, k2, k3⟩ := o34 ((op_n ho (by decide)).1 q)
    have k2' := k2.2.1
    refine Tm_suc (fun k => by rw [f_X3_data]) ?_
    refine Tm_oP eb ?_
    refine Tm_op (c_makeCopy (C := tcC c) mi.1 cr.1 (by show sN σ (pR0 (sKd σ b)) ≤ _; rw [cr.2.1]; omega) (by show uN (L.1 3 + 1) + uN (L.1 2) ≤ sN σ (pR0 (sKd σ b)); rw [cr.2.1, e31]; exact k1) (by show LitC (tcC c) (uN (L.1 3 + 1)) (uN (L.1 2)); rw [e31]; exact k2)) (fun q2 z => ?_)
    obtain ⟨g', l', t', ga, v⟩ := z
    refine gi g' l' t' q2.2 q2.1 _ ga (v.elim id Gv_rw) ?_
    rw [u_add (by omega), e31]
    exact k3
  · obtain ⟨k1, k2⟩ := o35 ((op_n ho (by decide)).1 q)
    have hv := SL_hv k1.1 _ _ _ ty.1 k1.2
    have ea : uN (σ.1 1901 + 4 + L.1 2) = uN (σ.1 1901) + 4 + uN (L.1 2) := by rw [u_add (by rw [u_add (by omega)]; omega), u_add (by omega), u4]
    refine Tm_suc (fun k => by rw [f_X3_data]) ?_
    refine Tm_chk (u_in (by omega) (by omega)) ?_
    refine pu2 _ ?_ k2
    rw [u_cl (by omega), ea]
    exact Rwk_v st3 (by omega) hv.2
  · obtain ⟨k1, k2⟩ := o36 ((op_n ho (by decide)).1 q)
    have mb := mi.2.2.2.2.2.2.1
    have ea : uN (4 + L.1 2) = 4 + uN (L.1 2) := by rw [u_add (by omega), u4]
    have kn : K (4 + uN (L.1 2)) = none := by
      rw [mi.2.2.2.2.2.1 _ (by omega)]
      rcases p.2.2.2.2 with y | y
      · exact (y.2 _ (by omega)).trans (KH_n (by omega))
      · exact (y.1 _).trans (KH_n (by omega))
    refine Tm_suc (fun k => by rw [f_X3_data]) ?_
    refine Tm_chk (u_in (by omega) (by omega)) ?_
    refine pu2 _ ?_ k2
    rw [u_cl (by omega), ea]
    exact (st3 _ (by omega)).2.1 kn
  · obtain ⟨d', r', k1, k2⟩ := o37 ((op_n ho (by decide)).1 q)
    have pd := Pre_dp p k1 k2.choose_spec.2.2
    refine Tm_suc (fun k => by rw [f_X3_data]) ?_
    refine b12 _ _ _ ?_
    have z := fl_fin (rk := rk) pd.1 rfl (fun _ _ => rfl) (by
      show Nx c (uN (σ.1 1900)) u d' r' rk
      rw [hpc, u_n (by omega)]; exact k2)
    exact IO_b (Md_i σ (by decide) _) rfl z
  · obtain ⟨k1, k2⟩ := o38 ((op_n ho (by decide)).1 q)
    have ea : uN (σ.1 1902 - 1 - L.1 2) = uN (σ.1 1902) - 1 - uN (L.1 2) := by rw [u_sub (by rw [u_sub (by omega)]; omega), u_sub (by omega), u1]
    refine Tm_suc (fun k => by rw [f_X3_data]) ?_
    refine Tm_chk (u_in (by omega) (by omega)) ?_
    refine pu2 _ ?_ k2
    rw [u_cl (by omega)]
    exact Ty_v p (by omega) (by omega)
  · obtain ⟨k1, k2⟩ := o39 ((op_n ho (by decide)).1 q)
    have ea : uN (σ.1 1902 - 1) = uN (σ.1 1902) - 1 := by rw [u_sub (by omega), u1]
    have ea2 : uN (σ.1 1902 - 2) = uN (σ.1 1902) - 2 := by rw [u_sub (by omega), u2]
    have i1 : ¬ (σ.1 1902 - 1 < 0 ∨ sN σ 20 ≤ (σ.1 1902 - 1).toNatClampNeg) := u_in (by omega) (by omega)
    have i2 : ¬ (σ.1 1902 - 2 < 0 ∨ sN σ 20 ≤ (σ.1 1902 - 2).toNatClampNeg) := u_in (by omega) (by omega)
    refine Tm_suc (fun k => by rw [f_X3_data]) ?_
    refine Tm_chk i1 (Tm_chk i2 (Tm_chk i1 (Tm_chk i2 ?_)))
    refine b12 _ _ _ ?_
    have kt1 : K (uN (σ.1 1902) - 1) = none := SL_top _ _ _ ty.1 _ (by omega) (by omega)
    have kt2 : K (uN (σ.1 1902) - 2) = none := SL_top _ _ _ ty.1 _ (by omega) (by omega)
    have c1 : (σ.1 1902 - 1).toNatClampNeg = uN (σ.1 1902) - 1 := by rw [u_cl (by omega), ea]
    have c2 : (σ.1 1902 - 2).toNatClampNeg = uN (σ.1 1902) - 2 := by rw [u_cl (by omega), ea2]
    have sw : Pre c g l t K K2 K3 K4 B KB f0 u0 (uA (uA σ 20 (σ.1 1902 - 1).toNatClampNeg (σ.2.2.1 20 (σ.1 1902 - 2).toNatClampNeg)) 20 (σ.1 1902 - 2).toNatClampNeg (σ.2.2.1 20 (σ.1 1902 - 1).toNatClampNeg)) fs u d r pb nf nc sq := by
      have md : Md σ (uA (uA σ 20 (σ.1 1902 - 1).toNatClampNeg (σ.2.2.1 20 (σ.1 1902 - 2).toNatClampNeg)) 20 (σ.1 1902 - 2).toNatClampNeg (σ.2.2.1 20 (σ.1 1902 - 1).toNatClampNeg)) := Md_t (Md_A σ (by decide) _ _) (Md_A _ (by decide) _ _)
      have v := VI_20 (K' := K) mi.2.1 md rfl ⟨fun _ z => z, fun _ _ => rfl⟩ st1 st2 (by
        intro j hj
        show Gw g (upd (upd (σ.2.2.1 20) (σ.1 1902 - 1).toNatClampNeg (σ.2.2.1 20 (σ.1 1902 - 2).toNatClampNeg)) (σ.1 1902 - 2).toNatClampNeg (σ.2.2.1 20 (σ.1 1902 - 1).toNatClampNeg) j) ∧ (K j = none → Gv g (upd (upd (σ.2.2.1 20) (σ.1 1902 - 1).toNatClampNeg (σ.2.2.1 20 (σ.1 1902 - 2).toNatClampNeg)) (σ.1 1902 - 2).toNatClampNeg (σ.2.2.1 20 (σ.1 1902 - 1).toNatClampNeg) j)) ∧ ∀ v, K j = some v → ((upd (upd (σ.2.2.1 20) (σ.1 1902 - 1).toNatClampNeg (σ.2.2.1 20 (σ.1 1902 - 2).toNatClampNeg)) (σ.1 1902 - 2).toNatClampNeg (σ.2.2.1 20 (σ.1 1902 - 1).toNatClampNeg) j) = v ∧ Rr v) ∨ Mkd g (σ.2.2.1 3) v (upd (upd (σ.2.2.1 20) (σ.1 1902 - 1).toNatClampNeg (σ.2.2.1 20 (σ.1 1902 - 2).toNatClampNeg)) (σ.1 1902 - 2).toNatClampNeg (σ.2.2.1 20 (σ.1 1902 - 1).toNatClampNeg) j)
        rw [c1, c2]
        have hj' : j < uN (σ.1 1902) := hj
        by_cases z2 : j = uN (σ.1 1902) - 2
        · rw [z2, upd_same, kt2]
          exact Rwn (Ty_v p (by omega) (by omega))
        · rw [upd_other z2]
          by_cases z1 : j = uN (σ.1 1902) - 1
          · rw [z1, upd_same, kt1]
            exact Rwn (Ty_v p (by omega) (by omega))
          · rw [upd_other z1]
            exact st3 j hj')
      exact ⟨MIn_d mi md (HQ_fr mi.1 rfl rfl rfl) v mi.2.2.2.2.2.1 mi.2.2.2.2.2.2.1.2, ty, w, p.2.2.2⟩
    have z := fl_fin (rk := rk) sw rfl (fun _ _ => rfl) (by
      show Nx c (uN (σ.1 1900)) u d r rk
      rw [hpc, u_n (by omega)]; exact k2)
    exact IO_b (Md_t (Md_A σ (by decide) _ _) (Md_A _ (by decide) _ _)) rfl z
  · obtain ⟨k1, k2⟩ := o40 (Or.inl ((op_n ho (by decide)).1 q))
    exact b9 k1 k2
  · obtain ⟨k1, k2⟩ := o41 ((op_n ho (by decide)).1 q)
    have fb := (FC_b _ _ _ _ _ _ _ ty.2.1).1
    have e11 := ty.2.2.2.2.1
    have n20 := ty.2.2.2.1.2
    have ea : uN (σ.1 1811 + L.1 2) = uN (σ.1 1811) + uN (L.1 2) := u_add (by omega)
    refine Tm_suc (fun k => by rw [f_X3_data]) ?_
    refine Tm_chk (u_in (by omega) (by decide)) ?_
    refine pu2 _ ?_ k2
    have hv := PaM_hv (show uN (L.1 2) < 500000 by omega) _ ty.2.2.2.2.2.2.2.2 k1.2
    rw [u_cl (by omega), ea, e11]
    exact Rwk_v mi.2.1.2.1 (by omega) hv.2
  · obtain ⟨k1, k2⟩ := o42 ((op_n ho (by decide)).1 q)
    refine Tm_suc (fun k => by rw [f_X3_data]) ?_
    refine Tm_oxc (c_pushAll st1 st2 (by show uN (L.1 2) ≤ _; omega)) (fun q z => by rw [z.1]) (fun q z => ?_)
    refine b12 _ _ _ (pu_fin (n := uN (L.1 2)) p (Gv_om g) z rfl (fun _ _ => rfl) ?_)
    rw [z.2.2.1.1 1900 (by decide), hpc, u_n (by omega)]
    exact k2
  · have nn : ∀ n, n < 256 → ¬ nI op = nI n → ¬ op = n := fun n hn z e => z ((op_n ho hn).2 e)
    have hop : 32 ≤ op := h32
    obtain ⟨k1, k2⟩ := o40 (by
      have a1 := nn 32 (by decide) q1
      have a2 := nn 33 (by decide) q2
      have a3 := nn 34 (by decide) q3
      have a4 := nn 35 (by decide) q4
      have a5 := nn 36 (by decide) q5
      have a6 := nn 37 (by decide) q6
      have a7 := nn 38 (by decide) q7
      have a8 := nn 39 (by decide) q8
      have a9 := nn 40 (by decide) q9
      have a10 := nn 41 (by decide) q10
      have a11 := nn 42 (by decide) q11
      omega)
    exact b9 k1 k2
end CSU
end JnS383
section JnS384
/-! The class: instructions that make values. -/
section CSV
variable {g g' g2 : Nat → Prop} {l l' l2 : List Nat} {t t' t2 : Nat} {σ σ' σ2 : CS} {L : LV} {x y i : Int32} {M M' U U' : Nat → Int32} {K K' K2 K3 K4 KB : Nat → Option Int32} {c : Ct} {B f0 u0 : Nat} {fs : List FrT} {u d : Nat} {r : List Nat} {pb nf nc sq rk : Nat}
/-- a value is given behind steps that came first -/
theorem giX (p : Pre c g' l' t' K K2 K3 K4 B KB f0 u0 σ' fs u d r pb nf nc sq) (md : Md σ σ') (es : σ'.2.2.2.2.1 = σ.2.2.2.2.1) (e5 : σ'.1 1905 = σ.1 1905) (e4 : σ'.1 1814 = σ.1 1814) (gx : Gv g' x) (nx : NxS c (uN (σ'.1 1900)) u (d + 1) r) (q0 : Nat) : Tm (fun k => f_X3_give k 0 (lI lZ 1 x) σ') (fun q => q.1.1 = 0 ∧ IO c B KB f0 u0 σ (mu σ q0) ((0, 0), q.2.1, (q.2.2.1 + 0, q.2.2.2 + 0))) := by
  have st' := p.1.2.1.1
  have ts' := TyS_sp p.2.1
  refine Tm_mono (c_give p.1.1 gx (by omega) st'.1 st'.2.1 p.2.2.1) (fun q z => ⟨by rw [z.1], ?_⟩)
  rw [← mu_e e5 e4]
  refine IO_b md es (gi_fin (σ' := q.2.1) p gx z rfl (fun _ _ => rfl) ?_ _)
  rw [z.2.2.1.1 1900 (by decide)]
  exact nx
/-- a value takes the top's place behind steps that came first -/
theorem reX (p : Pre c g' l' t' K K2 K3 K4 B KB f0 u0 σ' fs u d r pb nf nc sq) (hd : 1 ≤ d) (md : Md σ σ') (es : σ'.2.2.2.2.1 = σ.2.2.2.2.1) (e5 : σ'.1 1905 = σ.1 1905) (e4 : σ'.1 1814 = σ.1 1814) (gx : Gv g' x) (nx : NxS c (uN (σ'.1 1900)) u d r) (q0 : Nat) : Tm (fun k => y_X3_replace k 0 (lI lZ 1 x) σ') (fun q => IO c B KB f0 u0 σ (mu σ q0) ((0, 0), q.2, (0, 0))) := by
  have st' := p.1.2.1.1
  have ts' := TyS_sp p.2.1
  refine Tm_mono (c_replace p.1.1 gx (by omega) st'.1 st'.2.1.2 p.2.2.1) (fun q z => ?_)
  rw [← mu_e e5 e4]
  refine IO_b md es (re_fin (σ' := q.2) p hd gx z rfl (fun _ _ => rfl) ?_ _)
  rw [z.1.1 1900 (by decide)]
  exact nx
theorem Pre_L (p : Pre c g l t K K2 K3 K4 B KB f0 u0 σ fs u d r pb nf nc sq) (v : Int64) : Pre c g l t K K2 K3 K4 B KB f0 u0 (uL σ 1916 v) fs u d r pb nf nc sq := by
  obtain ⟨mi, ty, w, h0, bo⟩ := p
  have md : Md σ (uL σ 1916 v) := ⟨fun _ _ => rfl, fun j hj => if_neg hj, fun _ _ => rfl, ⟨fun _ _ => rfl, Nat.le_refl _⟩, rfl, rfl⟩
  have vi := VI_20 (σ' := uL σ 1916 v) mi.2.1 md rfl ⟨fun _ z => z, fun _ _ => rfl⟩ (K' := K) mi.2.1.1.1 mi.2.1.1.2.1 mi.2.1.1.2.2
  exact ⟨MIn_d mi md (HQ_fr mi.1 rfl rfl rfl) vi mi.2.2.2.2.2.1 mi.2.2.2.2.2.2.1.2, ty, w, h0, bo⟩
theorem Md_L (σ : CS) (v : Int64) : Md σ (uL σ 1916 v) := ⟨fun _ _ => rfl, fun j hj => if_neg hj, fun _ _ => rfl, ⟨fun _ _ => rfl, Nat.le_refl _⟩, rfl, rfl⟩
theorem c_nextDraw (h1 : 1 ≤ uN (L.1 1)) (h2 : uN (L.1 1) < 2147483648) : Tm (fun k => y_X3_nextDraw k 0 L σ) (fun q => (∃ v, q.2 = uL σ 1916 v) ∧ uN q.1 < uN (L.1 1)) := by
  have e := u_of (L.1 1)
  refine Tm_suc (fun k => by rw [y_X3_nextDraw]) ?_
  refine Tm_no (by
    intro z
    rw [i_le, u_int (L.1 1), if_pos h2] at z
    have z' : (uN (L.1 1) : Int) ≤ 0 := z
    omega) ?_
  refine Tm_no (by
    intro z
    rw [e] at z
    have z2 := congrArg Int64.toInt z
    rw [w_int h2] at z2
    have e0 : (0 : Int64).toInt = 0 := rfl
    rw [e0] at z2
    omega) ?_
  refine Tm_suc (fun k => by rw [y_X3_nextDraw]) ?_
  refine Tm_some ⟨⟨_, rfl⟩, ?_⟩
  show uN _ < uN (L.1 1)
  obtain ⟨m, m1, m2⟩ := dw_up ((uL σ 1916 (σ.2.1 1916 * 6364136223846793005 + 1442695040888963407)).2.1 1916).toUInt64
  obtain ⟨i, i1, i2⟩ := dw_mod m2 m1 h1 h2
  rw [← e] at i2
  show uN (Int64.toInt32 _) < uN (L.1 1)
  rw [i2, u_n (by omega)]
  exact i1
/-- drawn -/
def DrO (g : Nat → Prop) (t : Nat) (σ : CS) (q : Int32 × CS) : Prop := ∃ σ1, (σ1 = σ ∨ ∃ v, σ1 = uL σ 1916 v) ∧ Va g t σ1 q
theorem c_drawn (h : HQ g l t σ) (hx : Gv g (L.1 1)) : Tm (fun k => y_X3_drawn k 0 L σ) (DrO g t σ) := by
  have kl := kdC_lt (σ.2.2.1 3) (L.1 1)
  have ll := lnC_lt (σ.2.2.1 3) (L.1 1)
  have hL : ∀ v, HQ g l t (uL σ 1916 v) := fun v => HQ_fr h rfl rfl rfl
  have b3 : ∀ (L' : LV) (σ1 : CS), (σ1 = σ ∨ ∃ v, σ1 = uL σ 1916 v) → Gv g (L'.1 100) → Tm (fun k => y_X3_drawn k 3 L' σ1) (DrO g t σ) := by
    intro L' σ1 e gx
    refine Tm_suc (fun k => by rw [y_X3_drawn]) ?_
    refine Tm_some ⟨σ1, e, ?_⟩
    have h1 : HQ g l t σ1 := by
      rcases e with e | ⟨v, e⟩
      · rw [e]; exact h
      · rw [e]; exact hL v
    exact Va_g h1 (AXf_r σ1) gx
  have er : ∀ z : Int32, Rw z → DrO g t σ (z, σ) := fun z hz => ⟨σ, Or.inl rfl, Va_e h (AXf_r σ) hz⟩
  have b8 : ∀ L' : LV, Tm (fun k => y_X3_drawn k 8 L' σ) (DrO g t σ) := by
    intro L'
    refine Tm_suc (fun k => by rw [y_X3_drawn]) ?_
    exact Tm_some (er _ ePlace)
  have b6 : ∀ L' : LV, L'.1 1 = L.1 1 → Tm (fun k => y_X3_drawn k 6 L' σ) (DrO g t σ) := by
    intro L' a1
    refine Tm_suc (fun k => by rw [y_X3_drawn]) ?_
    refine Tm_ite (fun _ => b8 _) (fun c1 => ?_)
    refine Tm_oc (c_isBelow h (by show Gv g (L'.1 1); rw [a1]; exact hx)) (fun q z => ?_)
    have e : q.2 = σ := z.1
    rw [e]
    refine Tm_ite (fun _ => ?_) (fun _ => b8 _)
    have n1 : 1 ≤ uN (L'.1 100) ∧ uN (L'.1 100) < 2147483648 := by
      rw [i_lt, u_int (L'.1 100)] at c1
      have c2 : ¬ (if uN (L'.1 100) < 2147483648 then (uN (L'.1 100) : Int) else (uN (L'.1 100) : Int) - 4294967296) < 1 := c1
      have := u_lt (L'.1 100)
      split at c2 <;> omega
    refine Tm_suc (fun k => by rw [y_X3_drawn]) ?_
    refine Tm_oc (c_nextDraw n1.1 n1.2) (fun q2 z2 => ?_)
    obtain ⟨⟨v, e2⟩, _⟩ := z2
    rw [e2]
    exact Tm_oc (c_of (hL v)) (fun q3 z3 => Tm_some ⟨_, Or.inr ⟨v, rfl⟩, Va_V z3⟩)
  refine Tm_suc (fun k => by rw [y_X3_drawn]) ?_
  refine Tm_ocE (c_kind h hx) ?_
  refine Tm_ite (fun c4 => ?_) (fun c4 => ?_)
  · refine Tm_suc (fun k => by rw [y_X3_drawn]) ?_
    refine Tm_ite (fun c2 => ?_) (fun _ => Tm_some (er _ eKind))
    have k2 : kdC (σ.2.2.1 3) (L.1 1) = 2 := kd_n (n := 2) (by decide) c2
    refine Tm_suc (fun k => by rw [y_X3_drawn]) ?_
    refine Tm_ite (fun cc => ?_) (fun _ => ?_)
    · have cc' : 0 ≤ L.1 1 := cc
      rw [u_nn] at cc'
      refine Tm_suc (fun k => by rw [y_X3_drawn]) ?_
      refine Tm_ocE (c_length h hx) ?_
      refine Tm_ite (fun c1 => ?_) (fun _ => ?_)
      · have c1' : nI (lnC (σ.2.2.1 3) (L.1 1)) = 1 := c1
        rw [u_eq, u_n (by omega)] at c1'
        have u1 : uN (1 : Int32) = 1 := rfl
        have w1 : uN (1 : Int32) ≤ hdW (uN (σ.2.2.1 3 (uN (L.1 1)))) := by
          unfold kdC at k2
          unfold lnC at c1'
          rw [if_pos cc'] at k2 c1'
          unfold hdK at k2
          unfold hdW
          rw [if_neg (by omega)]
          omega
        refine Tm_chk (in_gi (y := 1) h hx cc' w1).1 ?_
        exact b6 _ rfl
      · refine Tm_suc (fun k => by rw [y_X3_drawn]) ?_
        exact b6 _ rfl
    · refine Tm_oc c_number (fun q z => ?_)
      have e : q.2 = σ := z
      rw [e]
      exact b6 _ rfl
  · have c4' : ¬ nI (kdC (σ.2.2.1 3) (L.1 1)) < 4 := c4
    have u4 : uN (4 : Int32) = 4 := rfl
    rw [u_ltn (by rw [u_n (by omega)]; omega) (by decide), u_n (by omega), u4] at c4'
    refine Tm_ocE (c_length h hx) ?_
    refine Tm_ite (fun _ => b3 _ _ (Or.inl rfl) (Gv_om g)) (fun c0 => ?_)
    have c0' : ¬ nI (lnC (σ.2.2.1 3) (L.1 1)) = 0 := c0
    rw [u_eq, u_n (by omega)] at c0'
    have u0 : uN (0 : Int32) = 0 := rfl
    rw [u0] at c0'
    have el : uN (nI (lnC (σ.2.2.1 3) (L.1 1))) = lnC (σ.2.2.1 3) (L.1 1) := u_n (by omega)
    refine Tm_suc (fun k => by rw [y_X3_drawn]) ?_
    refine Tm_oc (c_nextDraw (by show 1 ≤ uN (nI (lnC (σ.2.2.1 3) (L.1 1))); omega) (by show uN (nI (lnC (σ.2.2.1 3) (L.1 1))) < _; omega)) (fun q2 z2 => ?_)
    obtain ⟨⟨v, e2⟩, z3⟩ := z2
    have z3' : uN q2.1 < uN (nI (lnC (σ.2.2.1 3) (L.1 1))) := z3
    rw [e2]
    refine Tm_oc (c_taken (hL v) hx ?_) (fun q3 z4 => ?_)
    · show (kdC (σ.2.2.1 3) (L.1 1) = 4 ∧ uN q2.1 < lnC (σ.2.2.1 3) (L.1 1)) ∨ 5 ≤ kdC (σ.2.2.1 3) (L.1 1)
      rcases Nat.lt_or_ge (kdC (σ.2.2.1 3) (L.1 1)) 5 with w | w
      · exact Or.inl ⟨by omega, by omega⟩
      · exact Or.inr w
    · have e3 : q3.2 = uL σ 1916 v := z4.1
      rw [e3]
      exact b3 _ _ (Or.inr ⟨v, rfl⟩) z4.2
theorem MFr_i (σ : CS) {j : Nat} (hj : (1800 ≤ j ∧ j < 1820) ∨ (1900 ≤ j ∧ j < 1917)) (x : Int32) : MFr σ (uI σ j x) := ⟨fun i hi => upd_other (by omega), fun _ _ => rfl, fun _ _ => ⟨rfl, rfl⟩, rfl, rfl⟩
theorem EvF_i (σ : CS) {j : Nat} (hj : j < 1903 ∨ 1914 ≤ j ∨ j = 1905) (x : Int32) : EvF σ (uI σ j x) := fun i h1 h2 h3 => upd_other (by omega)
theorem Pre_at (p : Pre c g l t K K2 K3 K4 B KB f0 u0 σ fs u d r pb nf nc sq) {j : Nat} (hj : j = 1914 ∨ j = 1915) (hx : (j = 1914 → uN x ≤ 1000000) ∧ (j = 1915 → uN x ≤ 2000000000)) : Pre c g l t K K2 K3 K4 B KB f0 u0 (uI σ j x) fs u d r pb nf nc sq := by
  obtain ⟨mi, ty, w, h0, bo⟩ := p
  have e : ∀ i, ¬ i = j → (uI σ j x).1 i = σ.1 i := fun i hi => upd_other hi
  obtain ⟨m1, m2, m3, m4, m5, m6, m7, m8, m9, m10, m11⟩ := mi
  have us : usI (uI σ j x) = usI σ := by
    unfold usI
    show (if (uI σ j x).1 2405 = 0 then (uI σ j x).1 2403 else (uI σ j x).1 2403 + (uI σ j x).1 (100 * (28 + sPi σ 8) + 2) + (uI σ j x).1 (100 * (28 + sPi σ 8) + 13)) = _
    rw [e 2405 (by omega), e 2403 (by omega), e (100 * (28 + sPi σ 8) + 2) (by omega), e (100 * (28 + sPi σ 8) + 13) (by omega)]
  have v : VI g K K2 K3 K4 (uI σ j x) := by
    obtain ⟨v1, v2, v3, v4, v5, v6, v7, v8⟩ := m2
    refine ⟨?_, v2, ?_, v4, v5, by rw [us]; exact v6, v7, by rw [us]; exact v8⟩
    · rw [e 1902 (by omega)]; exact v1
    · rw [e 1913 (by omega)]; exact v3
  have sv : SVK c K3 (uI σ j x) := by
    have ef : ∀ p i, (uI σ j x).1 (100 * (28 + p) + i) = σ.1 (100 * (28 + p) + i) := fun p i => e _ (by omega)
    have sr : ∀ p s, SvR c K3 σ p s → SvR c K3 (uI σ j x) p s := by
      intro p s h
      unfold SvR
      rw [ef p 0, ef p 1, ef p 2, ef p 8, ef p 7, ef p 5, ef p 13, ef p 12, ef p 14, ef p 15]
      exact h
    obtain ⟨h1, h2, h3, h4, h5⟩ := m5
    refine ⟨⟨by rw [e 2404 (by omega), e 2403 (by omega)]; exact h1.1, SVB_e h1.1.1 h2 (fun i _ _ => e i (by omega)) (fun _ => rfl) h1.2⟩, h2, h3, fun i hi => ?_, fun hn => ?_⟩
    · rw [e 2404 (by omega)] at hi
      have z := h4 i hi
      rw [ef, ef, e 2403 (by omega), e 2404 (by omega)]
      exact ⟨sr _ _ z.1, z.2⟩
    · rw [e 2405 (by omega)] at hn
      have z := h5 hn
      rw [ef, ef, e 2403 (by omega)]
      exact ⟨sr _ _ z.1, z.2⟩
  refine ⟨⟨HQ_fr m1 (e 1 (by omega)) rfl rfl, v, m3, ?_, sv, m6, ?_, ?_, ?_, ?_, ?_⟩, TyS_k ty ⟨e 1901 (by omega), e 1815 (by omega), e 1811 (by omega), e 1908 (by omega)⟩ (by rw [e 1902 (by omega)]; exact ty.1) (fun _ _ => rfl) ty.2.2.1 ty.2.2.2.2.2.2.2.2, by rw [e 1905 (by omega)]; exact w, by rw [e 1812 (by omega)]; exact h0, bo⟩
  · rw [e 1912 (by omega), e 1913 (by omega)]; exact m4
  · rw [e 1902 (by omega)]; exact m7
  · rw [e 1903 (by omega), e 1814 (by omega)]; exact m8
  · rw [e 1912 (by omega)]; exact m9
  · rcases hj with z | z
    · subst z
      exact hx.1 rfl
    · rw [e 1914 (by omega)]; exact m10
  · rcases hj with z | z
    · rw [e 1915 (by omega)]; exact m11
    · subst z
      exact hx.2 rfl
theorem c_newAtom (p : Pre c g l t K K2 K3 K4 B KB f0 u0 σ fs u d r pb nf nc sq) (nx : NxS c (uN (σ.1 1900)) u (d + 1) r) (q0 : Nat) : Tm (fun k => f_X3_newAtom k 0 L σ) (fun q => q.1.1 = 0 ∧ IO c B KB f0 u0 σ (mu σ q0) ((0, 0), q.2.1, (q.2.2.1 + 0, q.2.2.2 + 0))) := by
  have m10 := p.1.2.2.2.2.2.2.2.2.2.1
  refine Tm_suc (fun k => by rw [f_X3_newAtom]) ?_
  refine Tm_ite (fun c1 => ?_) (fun _ => ?_)
  · have e6 : uN (1000000 : Int32) = 1000000 := rfl
    rw [u_ltn (by omega) (by decide), e6] at c1
    have ei : uN (σ.1 1914 + 1) = uN (σ.1 1914) + 1 := u_inc (by omega)
    have pa := Pre_at (x := σ.1 1914 + 1) p (Or.inl rfl) ⟨fun _ => by omega, fun z => absurd z (by decide)⟩
    have st' := pa.1.2.1.1
    have ts' := TyS_sp pa.2.1
    have gx : Gv g (-1342177280 ||| (σ.1 1914 + 1)) := by
      left
      rw [u_orB (k := 28) (a := 11) (by omega) (by decide)]
      have e0 : uN (-1342177280) = 2952790016 := rfl
      omega
    refine Tm_suc (fun k => by rw [f_X3_newAtom]) ?_
    refine Tm_oxc (c_give pa.1.1 gx (by omega) st'.1 st'.2.1 pa.2.2.1) (fun q z => by rw [z.1]) (fun q z => ?_)
    refine Tm_some ⟨rfl, ?_⟩
    rw [← mu_e (σ := σ) (σ' := uI σ 1914 (σ.1 1914 + 1)) rfl rfl]
    refine IO_c (MFr_i σ (by decide) _) (EvF_i σ (by decide) _) rfl (gi_fin (σ' := q.2.1) pa gx z rfl (fun _ _ => rfl) ?_ q0)
    rw [z.2.2.1.1 1900 (by decide)]
    exact nx
  · refine Tm_op c_fail (fun q e => ?_)
    rw [e]
    refine Tm_some ⟨rfl, ?_⟩
    exact ha_fin p rfl (fun j hj => by
      show upd (upd σ.1 1813 _) 1812 1 j = _
      rw [upd_other (by omega), upd_other (by omega)]) rfl (f13 (by decide))
def Ok3 (c : Ct) (pc u d : Nat) (r : List Nat) (rk op : Nat) (num : Int32) : Prop := (op = 48 ∨ op = 49 → ∃ d', d = d' + uN num ∧ tcF c u ≤ bt d' r ∧ NxS c (pc + 1) u (d' + 1) r) ∧ (op = 50 ∨ op = 51 → ∃ d', d = d' + 2 ∧ NxS c (pc + 1) u (d' + 1) r) ∧ (op = 52 ∨ op = 53 → ∃ d', d = d' + 3 ∧ NxS c (pc + 1) u (d' + 1) r) ∧ (op = 54 → NxS c (pc + 1) u (d + 1) r) ∧ (55 ≤ op → 1 ≤ d ∧ NxS c (pc + 1) u d r)
theorem c_makeValue (p : Pre c g l t K K2 K3 K4 B KB f0 u0 σ fs u d r pb nf nc sq) {pc op : Nat} (ho : op < 256) (h48 : 48 ≤ op) (h1 : L.1 1 = nI op) (hp : pc + 1 ≤ tcN c) (hN : tcN c ≤ 36864) (hpc : σ.1 1900 = nI (pc + 1)) (ok : Ok3 c pc u d r rk op (L.1 2)) : Tm (fun k => f_X3_makeValue k 0 L σ) (IO c B KB f0 u0 σ (mu σ (qv nf sq rk))) := by
  have mi := p.1
  have ty := p.2.1
  have w := p.2.2.1
  obtain ⟨st1, st2, st3⟩ := mi.2.1.1
  have ts := TyS_sp ty
  have b7 : ∀ (σ' : CS) (L' : LV) (Q : RS → Prop), Q ((0, 0), σ', (0, 0)) → Tm (fun k => f_X3_makeValue k 7 L' σ') Q := by
    intro σ' L' Q h
    refine Tm_suc (fun k => by rw [f_X3_makeValue]) ?_
    exact Tm_some h
  have u1 : uN (1 : Int32) = 1 := rfl
  have u2 : uN (2 : Int32) = 2 := rfl
  have epc : uN (nI (pc + 1)) = pc + 1 := u_n (by omega)
  obtain ⟨o48, o50, o52, o54, o55⟩ := ok
  -- values given and taking the top's place
  have gi : ∀ (g' : Nat → Prop) (l' : List Nat) (t' : Nat) (σ' : CS) (x : Int32) (d' : Nat) (L' : LV), Pre c g' l' t' K K2 K3 K4 B KB f0 u0 σ' fs u d' r pb nf nc sq → Md σ σ' → σ'.2.2.2.2.1 = σ.2.2.2.2.1 → σ'.1 1905 = σ.1 1905 → σ'.1 1900 = σ.1 1900 → Gv g' x → NxS c (pc + 1) u (d' + 1) r → Tm (fun k => ox (f_X3_give k 0 (lI lZ 1 x) σ') (fun r2 => f_X3_makeValue k 7 L' r2.2.1)) (IO c B KB f0 u0 σ (mu σ (qv nf sq rk))) := by
    intro g' l' t' σ' x d' L' p' md es e5 e9 gx nx
    refine Tm_oxc (giX p' md es e5 (md.1 1814 (by decide)) gx (by rw [e9, hpc, epc]; exact nx) (qv nf sq rk)) (fun q z => z.1) (fun q z => ?_)
    exact b7 _ _ _ z.2
  have re : ∀ (g' : Nat → Prop) (l' : List Nat) (t' : Nat) (σ' : CS) (x : Int32) (d' : Nat) (L' : LV), Pre c g' l' t' K K2 K3 K4 B KB f0 u0 σ' fs u d' r pb nf nc sq → 1 ≤ d' → Md σ σ' → σ'.2.2.2.2.1 = σ.2.2.2.2.1 → σ'.1 1905 = σ.1 1905 → σ'.1 1900 = σ.1 1900 → Gv g' x → NxS c (pc + 1) u d' r → Tm (fun k => Jvm.Pilot.CSetHouseLaw_law_r6264_2ea8b6.op (y_X3_replace k 0 (lI lZ 1 x) σ') (fun r2 => f_X3_makeValue k 7 L' r2.2)) (IO c B KB f0 u0 σ (mu σ (qv nf sq rk))) := by
    intro g' l' t' σ' x d' L' p' hd md es e5 e9 gx nx
    refine Tm_op (reX p' hd md es e5 (md.1 1814 (by decide)) gx (by rw [e9, hpc, epc]; exact nx) (qv nf sq rk)) (fun q z => ?_)
    exact b7 _ _ _ z
  refine Tm_suc (fun k => by rw [f_X3_makeValue]) ?_
  rw [h1]
  refine Tm_ite (fun q => ?_) (fun q1 => Tm_ite (fun q => ?_) (fun q2 => ?_))
  · obtain ⟨d', k1, k2, k3⟩ := o48 (Or.inl ((op_n ho (by decide)).1 q))
    obtain ⟨pd, es⟩ := Pre_dr p k1 rfl k2
    have es' : uN ((uI σ 1902 (σ.1 1902 - L.1 2)).1 1902) = uN (σ.1 1902) - uN (L.1 2) := es
    refine Tm_suc (fun k => by rw [f_X3_makeValue]) ?_
    refine Tm_op (c_setOf (s := uN (σ.1 1902) - uN (L.1 2)) (n := uN (L.1 2)) pd.1.1 (by show sN σ 20 ≤ _; omega) es rfl (by show _ ≤ sN σ 20; omega) (fun j hj => (Ty_v p (by omega) (by omega)))) (fun q3 z => ?_)
    obtain ⟨f, hf, g', l', t', ga, v⟩ := z
    have pf := Pre_f (f := f) pd (fun j hj => hf j (Or.inl (by rw [es'] at hj; exact hj)))
    have pg := Pre_Ga pf ga
    refine gi g' l' t' q3.2 q3.1 d' L pg (Md_t (Md_i σ (by decide) _) (Md_t (Md_F _ (by decide) f) (Md_S (Sm_A ga.2.2.2.2)))) (by rw [ga.2.2.2.2.2.2.2]; rfl) (ga.2.2.2.2.1 1905 (by decide)) (ga.2.2.2.2.1 1900 (by decide)) (v.elim id Gv_rw) k3
  · obtain ⟨d', k1, k2, k3⟩ := o48 (Or.inr ((op_n ho (by decide)).1 q))
    obtain ⟨pd, es⟩ := Pre_dr p k1 rfl k2
    have es' : uN ((uI σ 1902 (σ.1 1902 - L.1 2)).1 1902) = uN (σ.1 1902) - uN (L.1 2) := es
    refine Tm_suc (fun k => by rw [f_X3_makeValue]) ?_
    refine Tm_op (c_makeTuple20 pd.1.1 (by show sN σ 20 ≤ _; omega) (fun _ _ => ?_)) (fun q3 z => ?_)
    · show uN (σ.1 1902 - L.1 2) + uN (L.1 2) ≤ sN σ 20 ∧ ∀ j, j < uN (L.1 2) → Gv g (σ.2.2.1 20 (uN (σ.1 1902 - L.1 2) + j))
      rw [es]
      exact ⟨by omega, fun j hj => (Ty_v p (by omega) (by omega))⟩
    · obtain ⟨g', l', t', ga, v⟩ := Va_M pd.1.1 (AXf_r _) z
      have pg := Pre_Ga pd ga
      exact gi g' l' t' q3.2 q3.1 d' L pg (Md_t (Md_i σ (by decide) _) (Md_S (Sm_A ga.2.2.2.2))) (by rw [ga.2.2.2.2.2.2.2]; rfl) (ga.2.2.2.2.1 1905 (by decide)) (ga.2.2.2.2.1 1900 (by decide)) (v.elim id Gv_rw) k3
  -- progressions
  have b9 : ∀ (L' : LV) (σ' : CS) (d' : Nat), Pre c g l t K K2 K3 K4 B KB f0 u0 σ' fs u d' r pb nf nc sq → 1 ≤ d' → Md σ σ' → σ'.2.2.2.2.1 = σ.2.2.2.2.1 → σ'.1 1905 = σ.1 1905 → σ'.1 1900 = σ.1 1900 → NxS c (pc + 1) u d' r → Gv g (L'.1 103) → Gv g (L'.1 102) → Gv g (L'.1 101) → Tm (fun k => f_X3_makeValue k 9 L' σ') (IO c B KB f0 u0 σ (mu σ (qv nf sq rk))) := by
    intro L' σ' d' p' hd md es e5 e9 nx g3 g2' g1
    refine Tm_suc (fun k => by rw [f_X3_makeValue]) ?_
    refine Tm_op (c_progression p'.1.1 g3 g2' g1) (fun q3 z => ?_)
    obtain ⟨g', l', t', ga, v⟩ := z
    exact re g' l' t' q3.2 q3.1 d' L' (Pre_Ga p' ga) hd (Md_t md (Md_S (Sm_A ga.2.2.2.2))) (by rw [ga.2.2.2.2.2.2.2]; exact es) ((ga.2.2.2.2.1 1905 (by decide)).trans e5) ((ga.2.2.2.2.1 1900 (by decide)).trans e9) (v.elim id Gv_rw) nx
  have b11 : ∀ (L' : LV) (g' : Nat → Prop) (l' : List Nat) (t' : Nat) (σ' : CS) (d' : Nat), Pre c g' l' t' K K2 K3 K4 B KB f0 u0 σ' fs u d' r pb nf nc sq → 1 ≤ d' → Md σ σ' → σ'.2.2.2.2.1 = σ.2.2.2.2.1 → σ'.1 1905 = σ.1 1905 → σ'.1 1900 = σ.1 1900 → NxS c (pc + 1) u d' r → Gv g' (L'.1 100) → Tm (fun k => f_X3_makeValue k 11 L' σ') (IO c B KB f0 u0 σ (mu σ (qv nf sq rk))) := by
    intro L' g' l' t' σ' d' p' hd md es e5 e9 nx gx
    refine Tm_suc (fun k => by rw [f_X3_makeValue]) ?_
    exact re g' l' t' σ' _ d' L' p' hd md es e5 e9 gx nx
  have b13 : ∀ (L' : LV) (σ' : CS) (d' : Nat), Pre c g l t K K2 K3 K4 B KB f0 u0 σ' fs u d' r pb nf nc sq → 1 ≤ d' → Md σ σ' → σ'.2.2.2.2.1 = σ.2.2.2.2.1 → σ'.1 1905 = σ.1 1905 → σ'.1 1900 = σ.1 1900 → NxS c (pc + 1) u d' r → Gv g (L'.1 103) → Gv g (L'.1 102) → Gv g (L'.1 101) → Tm (fun k => f_X3_makeValue k 13 L' σ') (IO c B KB f0 u0 σ (mu σ (qv nf sq rk))) := by
    intro L' σ' d' p' hd md es e5 e9 nx g3 g2' g1
    refine Tm_suc (fun k => by rw [f_X3_makeValue]) ?_
    refine Tm_op (c_progression p'.1.1 g3 g2' g1) (fun q3 z => ?_)
    obtain ⟨g', l', t', ga, v⟩ := z
    exact b11 _ g' l' t' q3.2 d' (Pre_Ga p' ga) hd (Md_t md (Md_S (Sm_A ga.2.2.2.2))) (by rw [ga.2.2.2.2.2.2.2]; exact es) ((ga.2.2.2.2.1 1905 (by decide)).trans e5) ((ga.2.2.2.2.1 1900 (by decide)).trans e9) nx (v.elim id Gv_rw)
  have b3 : ∀ d', d = d' + 2 → NxS c (pc + 1) u (d' + 1) r → Tm (fun k => f_X3_makeValue k 3 L σ) (IO c B KB f0 u0 σ (mu σ (qv nf sq rk))) := by
    intro d' k1 k2
    obtain ⟨pd, es⟩ := Pre_dr (x := 1) (d' := d' + 1) (n := 1) p (by omega) rfl k2.choose_spec.2.2
    have ea : uN (σ.1 1902 - 1 - 1) = uN (σ.1 1902) - 2 := by rw [u_sub (by omega), es]; omega
    have ga0 := (Ty_v p (q := (uN (σ.1 1902) - 2)) (by omega) (by omega))
    have gb0 := (Ty_v p (q := (uN (σ.1 1902) - 1)) (by omega) (by omega))
    have ga : Gv g (σ.2.2.1 20 (σ.1 1902 - 1 - 1).toNatClampNeg) := by rw [u_cl (by omega), ea]; exact ga0
    have gb : Gv g (σ.2.2.1 20 (σ.1 1902 - 1).toNatClampNeg) := by rw [u_cl (by omega), es]; exact gb0
    refine Tm_suc (fun k => by rw [f_X3_makeValue]) ?_
    refine Tm_chk (u_in (by show uN (σ.1 1902 - 1 - 1) < sN σ 20; omega) (by show sN σ 20 ≤ _; omega)) ?_
    refine Tm_chk (u_in (by show uN (σ.1 1902 - 1) < sN σ 20; omega) (by show sN σ 20 ≤ _; omega)) ?_
    refine Tm_ite (fun _ => ?_) (fun _ => ?_)
    · exact b9 _ _ _ pd (by omega) (Md_i σ (by decide) _) rfl rfl rfl k2 ga (Gv_om g) gb
    · refine Tm_suc (fun k => by rw [f_X3_makeValue]) ?_
      exact b9 _ _ _ pd (by omega) (Md_i σ (by decide) _) rfl rfl rfl k2 ga (Gv_om g) gb
  have b4 : ∀ d', d = d' + 3 → NxS c (pc + 1) u (d' + 1) r → Tm (fun k => f_X3_makeValue k 4 L σ) (IO c B KB f0 u0 σ (mu σ (qv nf sq rk))) := by
    intro d' k1 k2
    obtain ⟨pd, es⟩ := Pre_dr (x := 2) (d' := d' + 1) (n := 2) p (by omega) rfl k2.choose_spec.2.2
    have e1 : uN (σ.1 1902 - 2 - 1) = uN (σ.1 1902) - 3 := by rw [u_sub (by omega), es]; omega
    have e2 : uN (σ.1 1902 - 2 + 1) = uN (σ.1 1902) - 1 := by rw [u_inc (by omega), es]; omega
    have g1 : Gv g (σ.2.2.1 20 (σ.1 1902 - 2 - 1).toNatClampNeg) := by rw [u_cl (by omega), e1]; exact (Ty_v p (by omega) (by omega))
    have g2' : Gv g (σ.2.2.1 20 (σ.1 1902 - 2).toNatClampNeg) := by rw [u_cl (by omega), es]; exact (Ty_v p (by omega) (by omega))
    have g3 : Gv g (σ.2.2.1 20 (σ.1 1902 - 2 + 1).toNatClampNeg) := by rw [u_cl (by omega), e2]; exact (Ty_v p (by omega) (by omega))
    refine Tm_suc (fun k => by rw [f_X3_makeValue]) ?_
    refine Tm_chk (u_in (by show uN (σ.1 1902 - 2) < sN σ 20; omega) (by show sN σ 20 ≤ _; omega)) ?_
    refine Tm_ite (fun _ => ?_) (fun _ => ?_)
    · exact b11 _ g l t _ _ pd (by omega) (Md_i σ (by decide) _) rfl rfl rfl k2 (Gv_rw eKind)
    · refine Tm_suc (fun k => by rw [f_X3_makeValue]) ?_
      refine Tm_chk (u_in (by show uN (σ.1 1902 - 2 - 1) < sN σ 20; omega) (by show sN σ 20 ≤ _; omega)) ?_
      refine Tm_chk (u_in (by show uN (σ.1 1902 - 2 + 1) < sN σ 20; omega) (by show sN σ 20 ≤ _; omega)) ?_
      refine Tm_ite (fun _ => ?_) (fun _ => ?_)
      · exact b13 _ _ _ pd (by omega) (Md_i σ (by decide) _) rfl rfl rfl k2 g1 g2' g3
      · refine Tm_suc (fun k => by rw [f_X3_makeValue]) ?_
        exact b13 _ _ _ pd (by omega) (Md_i σ (by decide) _) rfl rfl rfl k2 g1 g2' g3
  refine Tm_ite (fun q => ?_) (fun q3 => Tm_ite (fun q => ?_) (fun q4 => Tm_ite (fun q => ?_) (fun q5 => Tm_ite (fun q => ?_) (fun q6 => Tm_ite (fun q => ?_) (fun q7 => ?_)))))
  · obtain ⟨d', k1, k2⟩ := o50 (Or.inl ((op_n ho (by decide)).1 q))
    exact b3 d' k1 k2
  · obtain ⟨d', k1, k2⟩ := o50 (Or.inr ((op_n ho (by decide)).1 q))
    exact b3 d' k1 k2
  · obtain ⟨d', k1, k2⟩ := o52 (Or.inl ((op_n ho (by decide)).1 q))
    exact b4 d' k1 k2
  · obtain ⟨d', k1, k2⟩ := o52 (Or.inr ((op_n ho (by decide)).1 q))
    exact b4 d' k1 k2
  · have k1 := o54 ((op_n ho (by decide)).1 q)
    refine Tm_suc (fun k => by rw [f_X3_makeValue]) ?_
    refine Tm_oxc (c_newAtom p (by rw [hpc, epc]; exact k1) (qv nf sq rk)) (fun q z => z.1) (fun q z => ?_)
    exact b7 _ _ _ z.2
  · have nn : ∀ n, n < 256 → ¬ nI op = nI n → ¬ op = n := fun n hn z e => z ((op_n ho hn).2 e)
    obtain ⟨k1, k2⟩ := o55 (by
      have a1 := nn 48 (by decide) q1
      have a2 := nn 49 (by decide) q2
      have a3 := nn 50 (by decide) q3
      have a4 := nn 51 (by decide) q4
      have a5 := nn 52 (by decide) q5
      have a6 := nn 53 (by decide) q6
      have a7 := nn 54 (by decide) q7
      omega)
    have ea : uN (σ.1 1902 - 1) = uN (σ.1 1902) - 1 := by rw [u_sub (by omega), u1]
    refine Tm_suc (fun k => by rw [f_X3_makeValue]) ?_
    refine Tm_chk (u_in (by omega) (by omega)) ?_
    refine Tm_op (c_drawn mi.1 (by show Gv g (σ.2.2.1 20 (σ.1 1902 - 1).toNatClampNeg); rw [u_cl (by omega), ea]; exact (Ty_v p (by omega) (by omega)))) (fun q8 z => ?_)
    obtain ⟨σ1, e1, g', l', t', ga, v⟩ := z
    have p1 : Pre c g l t K K2 K3 K4 B KB f0 u0 σ1 fs u d r pb nf nc sq ∧ Md σ σ1 ∧ σ1.1 = σ.1 ∧ σ1.2.2 = σ.2.2 := by
      rcases e1 with e | ⟨v, e⟩
      · rw [e]; exact ⟨p, Md_r σ, rfl, rfl⟩
      · rw [e]; exact ⟨Pre_L p v, Md_L σ v, rfl, rfl⟩
    obtain ⟨p1, m1, f1, f2⟩ := p1
    exact re g' l' t' q8.2 q8.1 d L (Pre_Ga p1 ga) k1 (Md_t m1 (Md_S (Sm_A ga.2.2.2.2))) (by rw [ga.2.2.2.2.2.2.2, f2]) (by rw [ga.2.2.2.2.1 1905 (by decide), f1]) (by rw [ga.2.2.2.2.1 1900 (by decide), f1]) (v.elim id Gv_rw) k2
end CSV
end JnS384
section JnS385
/-! The class: calls of funcs. -/
section CSW
variable {g g' g2 : Nat → Prop} {l l' l2 : List Nat} {t t' t2 : Nat} {σ σ' σ2 : CS} {L : LV} {x y i : Int32} {M M' U U' : Nat → Int32} {K K' K2 K3 K4 KB : Nat → Option Int32} {c : Ct} {B f0 u0 : Nat} {fs : List FrT} {u d : Nat} {r : List Nat} {pb nf nc sq rk : Nat}
/-- wide steps: the run's numbers, but points and what saves are made of -/
def Mw (σ σ' : CS) : Prop := (∀ j, ¬ (j = 1 ∨ j = 404 ∨ j = 1203 ∨ (1811 ≤ j ∧ j ≤ 1816) ∨ (1900 ≤ j ∧ j ≤ 1911)) → σ'.1 j = σ.1 j) ∧ (∀ j, ¬ j = 1916 → σ'.2.1 j = σ.2.1 j) ∧ (∀ k, ¬ (k = 3 ∨ (5 ≤ k ∧ k ≤ 11) ∨ k = 13 ∨ (15 ≤ k ∧ k ≤ 17) ∨ k = 20 ∨ k = 22 ∨ k = 23) → σ'.2.2.1 k = σ.2.2.1 k) ∧ ((∀ k, ¬ (k = 20 ∨ k = 22) → sN σ' k = sN σ k) ∧ sN σ 20 ≤ sN σ' 20) ∧ σ'.2.2.2.1 = σ.2.2.2.1 ∧ σ'.2.2.2.2.2 = σ.2.2.2.2.2
theorem Mw_d (a : Md σ σ') : Mw σ σ' := ⟨fun j hj => a.1 j (by omega), a.2.1, a.2.2.1, a.2.2.2.1, a.2.2.2.2.1, a.2.2.2.2.2⟩
theorem Mw_r (σ : CS) : Mw σ σ := Mw_d (Md_r σ)
theorem Mw_t (a : Mw σ σ') (b : Mw σ' σ2) : Mw σ σ2 := ⟨fun j hj => (b.1 j hj).trans (a.1 j hj), fun j hj => (b.2.1 j hj).trans (a.2.1 j hj), fun k hk => (b.2.2.1 k hk).trans (a.2.2.1 k hk), ⟨fun k hk => (b.2.2.2.1.1 k hk).trans (a.2.2.2.1.1 k hk), Nat.le_trans a.2.2.2.1.2 b.2.2.2.1.2⟩, b.2.2.2.2.1.trans a.2.2.2.2.1, b.2.2.2.2.2.trans a.2.2.2.2.2⟩
theorem Mw_i (σ : CS) {j : Nat} (hj : (1811 ≤ j ∧ j ≤ 1816) ∨ (1900 ≤ j ∧ j ≤ 1911)) (x : Int32) : Mw σ (uI σ j x) := ⟨fun i hi => upd_other (by omega), fun _ _ => rfl, fun _ _ => rfl, ⟨fun _ _ => rfl, Nat.le_refl _⟩, rfl, rfl⟩
theorem Mw_M (a : Mw σ σ') : MFr σ σ' := ⟨fun j hj => a.1 j (by omega), fun j hj => a.2.1 j (by omega), fun k hk => by
  unfold rwM at hk
  exact ⟨a.2.2.1 k (by omega), a.2.2.2.1.1 k (by omega)⟩, a.2.2.2.2.1, by rw [a.2.2.2.2.2]⟩
theorem SVK_w (a : Mw σ σ') (h : SVK c K3 σ) : SVK c K3 σ' := by
  have ep : ∀ i, sPi σ' i = sPi σ i := fun i => by show σ'.2.2.2.2.2.2 i = _; rw [a.2.2.2.2.2]
  have ef : ∀ p j, σ'.1 (100 * (28 + p) + j) = σ.1 (100 * (28 + p) + j) := fun p j => a.1 _ (by omega)
  have sv : ∀ p s, SvR c K3 σ p s → SvR c K3 σ' p s := by
    intro p s h
    unfold SvR
    rw [ef p 0, ef p 1, ef p 2, ef p 8, ef p 7, ef p 5, ef p 13, ef p 12, ef p 14, ef p 15, a.2.2.2.1.1 21 (by decide)]
    exact ⟨h.1, h.2.1, ⟨h.2.2.1.1, h.2.2.1.2.1, h.2.2.1.2.2.1, h.2.2.1.2.2.2.1, Nat.le_trans h.2.2.1.2.2.2.2.1 a.2.2.2.1.2, h.2.2.1.2.2.2.2.2⟩, POK_eq a.2.2.2.1.2 _ _ (fun _ _ => rfl) h.2.2.2⟩
  obtain ⟨h1, h2, h3, h4, h5⟩ := h
  refine ⟨?_, fun i hi => by rw [ep]; exact h2 i hi, fun i j hi hj e => ?_, fun i hi => ?_, fun hn => ?_⟩
  · exact ⟨by rw [a.1 2404 (by decide), a.1 2403 (by decide)]; exact h1.1, SVB_e h1.1.1 h2 (fun j _ _ => a.1 j (by omega)) ep h1.2⟩
  · rw [ep, ep] at e; exact h3 i j hi hj e
  · rw [a.1 2404 (by decide)] at hi
    have z := h4 i hi
    rw [ep, a.2.2.1 27 (by decide), ef, ef, a.1 2403 (by decide), a.1 2404 (by decide)]
    exact ⟨sv _ _ z.1, z.2⟩
  · rw [a.1 2405 (by decide)] at hn
    have z := h5 hn
    rw [ep, a.2.2.1 27 (by decide), ef, ef, a.1 2403 (by decide)]
    exact ⟨sv _ _ z.1, z.2⟩
theorem VI_w (v : VI g K K2 K3 K4 σ) (a : Mw σ σ') (e23 : σ'.2.2.1 23 = σ.2.2.1 23) (s : (∀ p, g p → g' p) ∧ ∀ p, g p → σ'.2.2.1 3 p = σ.2.2.1 3 p) (h1 : uN (σ'.1 1902) ≤ sN σ' 20) (h2 : 1024 ≤ sN σ' 20 ∧ sN σ' 20 ≤ 91000) (h3 : Rwk g' (σ'.2.2.1 3) K' (σ'.2.2.1 20) (uN (σ'.1 1902))) : VI g' K' K2 K3 K4 σ' := by
  have p8 : sPi σ' 8 = sPi σ 8 := by show σ'.2.2.2.2.2.2 8 = _; rw [a.2.2.2.2.2]
  have us : usI σ' = usI σ := by
    unfold usI
    rw [p8, a.1 2405 (by decide), a.1 2403 (by decide), a.1 (100 * (28 + sPi σ 8) + 2) (by omega), a.1 (100 * (28 + sPi σ 8) + 13) (by omega)]
  refine ⟨⟨h1, h2, h3⟩, by rw [e23]; exact Rwk_g v.2.1 s, ?_, ?_, ?_, ?_, ?_, ?_⟩
  · rw [a.1 1913 (by decide), a.2.2.1 21 (by decide), a.2.2.2.1.1 21 (by decide)]
    exact ⟨v.2.2.1.1, v.2.2.1.2.1, Rwk_g v.2.2.1.2.2 s⟩
  · rw [a.2.2.1 67 (by decide)]; exact Rwk_g v.2.2.2.1 s
  · rw [p8]; exact v.2.2.2.2.1
  · rw [us, a.2.2.2.1.1 26 (by decide)]; exact v.2.2.2.2.2.1
  · rw [a.2.2.2.1.1 26 (by decide)]; exact v.2.2.2.2.2.2.1
  · rw [us, a.2.2.1 26 (by decide)]; exact Rwk_g v.2.2.2.2.2.2.2 s
theorem MIn_w (h : MIn c g l t K K2 K3 K4 B KB σ) (a : Mw σ σ') (hq : HQ g' l' t' σ') (v : VI g' K' K2 K3 K4 σ') (kb : ∀ j, j < B → K' j = KB j) (b : B ≤ uN (σ'.1 1902)) (lf : uN (σ'.1 1903) + uN (σ'.1 1814) ≤ 10240000) : MIn c g' l' t' K' K2 K3 K4 B KB σ' := by
  refine ⟨hq, v, CtL_M h.2.2.1 (Mw_M a), ?_, SVK_w a h.2.2.2.2.1, kb, ⟨h.2.2.2.2.2.2.1.1, b⟩, lf, ?_⟩
  · rw [a.1 1912 (by decide), a.1 1913 (by decide)]; exact POK_eq a.2.2.2.1.2 _ _ (fun _ _ => rfl) h.2.2.2.1
  · rw [a.1 1912 (by decide), a.1 1914 (by decide), a.1 1915 (by decide)]; exact h.2.2.2.2.2.2.2.2
/-- behind an instruction of wide steps, where statements run -/
theorem IO_w (h : MIn c g l t K K2 K3 K4 B KB σ) (cs : tcS c u0) {q : RS} {m : Nat} (e0 : q.1 = (0, 0)) (co : CoP σ q) (a : Mw σ q.2.1) (hq : HQ g' l' t' q.2.1) (v : VI g' K' K2 K3 K4 q.2.1) (kb : ∀ j, j < B → K' j = KB j) (b : B ≤ uN (q.2.1.1 1902)) (lf : uN (q.2.1.1 1903) + uN (q.2.1.1 1814) ≤ 10240000) (run : q.2.1.1 1812 = 0 → ∃ z, RunT c K' K4 f0 u0 q.2.1 z ∧ mu q.2.1 z < m) (hz : ¬ q.2.1.1 1812 = 0 → Hz (tcS c u0) q.2.1) : IO c B KB f0 u0 σ m q :=
  ⟨e0, co, Mw_M a, fun n => absurd cs n, g', l', t', K', K2, K3, K4, MIn_w h a hq v kb b lf, run, hz⟩
/-- units of statements are called by their like -/
theorem FC_S : ∀ (fs : List FrT) (fp u pb nf nc sq : Nat), FC c K K4 f0 u0 fs fp u pb nf nc sq → tcS c u → tcS c u0
  | [], fp, u, pb, nf, nc, sq, h, cs => by rw [← h.2.1]; exact cs
  | q :: fs, fp, u, pb, nf, nc, sq, h, cs => by
    obtain ⟨⟨bk, rb, z2, z3, a, b, s, f1, f2, f3, k⟩, w⟩ := h
    rcases k with k | k
    · exact absurd k.1 cs.1
    · exact FC_S fs _ _ _ _ _ _ w k.2.1
/-- a frame's head -/
def Kh (K : Nat → Option Int32) (f : Nat) (a b e h : Int32) : Nat → Option Int32 := fun j => if j = f then some a else if j = f + 1 then some b else if j = f + 2 then some e else if j = f + 3 then some h else K j
theorem Kh_o {f j : Nat} {a b e h : Int32} (z : j < f ∨ f + 4 ≤ j) : Kh K f a b e h j = K j := by
  unfold Kh
  rw [if_neg (by omega), if_neg (by omega), if_neg (by omega), if_neg (by omega)]
theorem Kh_i {f : Nat} {a b e h : Int32} : Kh K f a b e h f = some a ∧ Kh K f a b e h (f + 1) = some b ∧ Kh K f a b e h (f + 2) = some e ∧ Kh K f a b e h (f + 3) = some h := by
  unfold Kh
  exact ⟨if_pos rfl, by rw [if_neg (by omega), if_pos rfl], by rw [if_neg (by omega), if_neg (by omega), if_pos rfl], by rw [if_neg (by omega), if_neg (by omega), if_neg (by omega), if_pos rfl]⟩
/-- values were laid upon the stack: what holds between instructions holds -/
theorem pu_MIn (mi : MIn c g l t K K2 K3 K4 B KB σ) (hx : Gv g x) {n : Nat} {q : RS} (h : PuO σ x n q) (e2 : σ'.2 = q.2.1.2) (ej : ∀ j, ¬ j = 1900 → σ'.1 j = q.2.1.1 j) : MIn c g l t (Kw K (uN (σ.1 1902)) n none) K2 K3 K4 B KB σ' ∧ Md σ σ' ∧ CoP σ ((0, 0), σ', (q.2.2.1 + 0, q.2.2.2 + 0)) := by
  obtain ⟨st1, st2, st3⟩ := mi.2.1.1
  obtain ⟨h1, h2, h3, h4, h5, h6, h7⟩ := h
  have md : Md σ σ' := Md_t (Md_S h3) (Md_pc e2 ej)
  have r20 : σ'.2.2.1 20 = q.2.1.2.2.1 20 := by rw [e2]
  have n20 : sN σ' 20 = sN q.2.1 20 := by show σ'.2.2.2.2.1 20 = _; rw [e2]
  have hq : HQ g l t σ' := HQ_fs mi.1 (by rw [ej 1 (by decide)]; exact h4.1) (by rw [e2]; exact h4.2) (fun k hk => by
    show σ'.2.2.2.2.1 k = _
    rw [e2]; exact h3.2.2.2.1.1 k hk)
  have co : CoP σ ((0, 0), σ', (q.2.2.1 + 0, q.2.2.2 + 0)) := by
    have ph := Ph_s (σ := q.2.1) (σ' := σ') (by rw [e2])
    have c1 := h2.1
    have c2 := h2.2
    exact ⟨by show q.2.2.1 + 0 + PhC σ' ≤ _; omega, by show q.2.2.2 + 0 + PhS σ' ≤ _; omega⟩
  have e5 : σ'.1 1902 = q.2.1.1 1902 := ej 1902 (by decide)
  have b := mi.2.2.2.2.2.2.1.2
  have e23 : σ'.2.2.1 23 = σ.2.2.1 23 := by rw [e2, h3.2.2.1 23 (by decide)]
  have r3 : σ'.2.2.1 3 = σ.2.2.1 3 := by rw [e2]; exact h4.2
  have kb : ∀ j, j < B → Kw K (uN (σ.1 1902)) n none j = KB j := fun j hj => by rw [Kw_o (Or.inl (by omega))]; exact mi.2.2.2.2.2.1 j hj
  refine ⟨?_, md, co⟩
  rcases h7 with ⟨a1, a2, a3, a4, a5, a6⟩ | ⟨a1, a2, a3, a4⟩
  · have rw1 : Rwk g (σ'.2.2.1 3) (Kw K (uN (σ.1 1902)) n none) (σ'.2.2.1 20) (uN (σ'.1 1902)) := by
      rw [e5, a1, r20, r3]
      intro j hj
      rcases Nat.lt_or_ge j (uN (σ.1 1902)) with z | z
      · rw [h6 j z, Kw_o (Or.inl z)]
        exact st3 j z
      · rw [a3 j z hj, Kw_i z hj]
        exact Rwn (hx)
    have v := VI_20 mi.2.1 md e23 ⟨fun _ z => z, fun p _ => by rw [r3]⟩ (by rw [e5, a1, n20]; exact a2) (by rw [n20]; exact h5) rw1
    exact MIn_d mi md hq v kb (by rw [e5, a1]; omega)
  · have rw1 : Rwk g (σ'.2.2.1 3) (Kw K (uN (σ.1 1902)) n none) (σ'.2.2.1 20) (uN (σ'.1 1902)) := by
      rw [e5, a1, r20, r3]
      intro j hj
      rw [h6 j hj, Kw_o (Or.inl hj)]
      exact st3 j hj
    have v := VI_20 mi.2.1 md e23 ⟨fun _ z => z, fun p _ => by rw [r3]⟩ (by rw [e5, a1, n20]; exact a2) (by rw [n20]; exact h5) rw1
    exact MIn_d mi md hq v kb (by rw [e5, a1]; exact b)
/-- what entering leaves -/
def EnO (c : Ct) (g : Nat → Prop) (l : List Nat) (t : Nat) (K2 K3 K4 : Nat → Option Int32) (B : Nat) (KB : Nat → Option Int32) (σ : CS) (K1 : Nat → Option Int32) (v f : Nat) (q : RS) : Prop := q.1 = (0, 0) ∧ CoP σ q ∧ Md σ q.2.1 ∧ (∀ j, ¬ (j = 404 ∨ j = 1203 ∨ j = 1812 ∨ j = 1813 ∨ j = 1900 ∨ j = 1901 ∨ j = 1902) → q.2.1.1 j = σ.1 j) ∧ uN (q.2.1.1 1900) = tcE c v ∧ ∃ K', MIn c g l t K' K2 K3 K4 B KB q.2.1 ∧ ((q.2.1.1 1812 = 1 ∧ ¬ q.2.1.1 1813 = 0) ∨ (q.2.1.1 1812 = σ.1 1812 ∧ uN (q.2.1.1 1901) = f ∧ uN (q.2.1.1 1902) = f + 4 + tcF c v ∧ (∀ p, p < f + 4 → K' p = K1 p) ∧ ∀ p, f + 4 ≤ p → p < f + 4 + tcF c v → K' p = none))
theorem c_enter (mi : MIn c g l t K K2 K3 K4 B KB σ) {v : Nat} (sl : uN (σ.1 1901) + 8 + tcP c v ≤ uN (σ.1 1902) ∧ ∀ p, uN (σ.1 1902) - tcP c v ≤ p → p < uN (σ.1 1902) → K p = none) (hb : B ≤ uN (σ.1 1902) - tcP c v - 4) (hv : v < 42) (hf : tcP c v ≤ tcF c v ∧ tcF c v ≤ 1000) (h1 : L.1 1 = nI v) : Tm (fun k => f_X3_enter k 0 L σ) (EnO c g l t K2 K3 K4 B KB σ (Kh K (uN (σ.1 1902) - tcP c v - 4) (rwN (uN (L.1 2) % 268435456)) (rwN (uN (σ.1 1901) % 268435456)) (rwN (uN (L.1 3) % 268435456)) (rwN (uN (L.1 4) % 268435456))) v (uN (σ.1 1902) - tcP c v - 4)) := by
  obtain ⟨st1, st2, st3⟩ := mi.2.1.1
  have sle := sl.1
  obtain ⟨b, eb, _⟩ := mi.2.2.1
  have cr := (Ct_row mi.2.2.1 eb).2.2 v hv
  have e1 : uN (L.1 1) = v := by rw [h1, u_n (by omega)]
  have i1 : ¬ (L.1 1 < 0 ∨ 42 ≤ (L.1 1).toNatClampNeg) := u_in (by omega) (by decide)
  have c1 : (L.1 1).toNatClampNeg = v := by rw [u_cl (by omega)]; exact e1
  have u4 : uN (4 : Int32) = 4 := rfl
  have u3 : uN (3 : Int32) = 3 := rfl
  have u2 : uN (2 : Int32) = 2 := rfl
  generalize hF : uN (σ.1 1902) - tcP c v - 4 = f at *
  have ef : uN (σ.1 1902 - σ.2.2.1 (pR14 b) v - 4) = f := by
    rw [u_sub (by rw [u_sub (by omega), cr.2.1]; omega), u_sub (by omega), cr.2.1, u4]; exact hF
  generalize hX : σ.1 1902 - σ.2.2.1 (pR14 b) v - 4 = fx at *
  have ef1 : uN (fx + 1) = f + 1 := by rw [u_inc (by omega), ef]
  have ef2 : uN (fx + 2) = f + 2 := by rw [u_add (by omega), ef, u2]
  have ef3 : uN (fx + 3) = f + 3 := by rw [u_add (by omega), ef, u3]
  have n20 : sN σ 20 ≤ 2147483648 := by omega
  refine Tm_suc (fun k => by rw [f_X3_enter]) ?_
  refine Tm_oP eb ?_
  refine Tm_chk i1 ?_
  rw [c1, hX]
  refine Tm_op c_raw (fun q1 z1 => ?_)
  rw [z1]
  refine Tm_chk (u_in (x := fx) (by show uN fx < sN σ 20; omega) n20) ?_
  refine Tm_op c_raw (fun q2 z2 => ?_)
  rw [z2]
  refine Tm_suc (fun k => by rw [f_X3_enter]) ?_
  refine Tm_chk (u_in (x := fx + 1) (by show uN (fx + 1) < sN σ 20; omega) n20) ?_
  refine Tm_op c_raw (fun q3 z3 => ?_)
  rw [z3]
  refine Tm_chk (u_in (x := fx + 2) (by show uN (fx + 2) < sN σ 20; omega) n20) ?_
  refine Tm_suc (fun k => by rw [f_X3_enter]) ?_
  refine Tm_op c_raw (fun q4 z4 => ?_)
  rw [z4]
  refine Tm_chk (u_in (x := fx + 3) (by show uN (fx + 3) < sN σ 20; omega) n20) ?_
  have k0 : fx.toNatClampNeg = f := by rw [u_cl (by omega)]; exact ef
  have k1 : (fx + 1).toNatClampNeg = f + 1 := by rw [u_cl (by omega)]; exact ef1
  have k2 : (fx + 2).toNatClampNeg = f + 2 := by rw [u_cl (by omega)]; exact ef2
  have k3 : (fx + 3).toNatClampNeg = f + 3 := by rw [u_cl (by omega)]; exact ef3
  -- the state with its head
  show Tm (fun k => f_X3_enter k 3 (lI (lI (lI L 5 fx) 100 (rwN (uN (σ.1 1901) % 268435456))) 101 (fx + 1)) (uI (uA (uA (uA (uA σ 20 fx.toNatClampNeg (rwN (uN (L.1 2) % 268435456))) 20 (fx + 1).toNatClampNeg (rwN (uN (σ.1 1901) % 268435456))) 20 (fx + 2).toNatClampNeg (rwN (uN (L.1 3) % 268435456))) 20 (fx + 3).toNatClampNeg (rwN (uN (L.1 4) % 268435456))) 1901 fx)) _
  generalize hH : uI (uA (uA (uA (uA σ 20 fx.toNatClampNeg (rwN (uN (L.1 2) % 268435456))) 20 (fx + 1).toNatClampNeg (rwN (uN (σ.1 1901) % 268435456))) 20 (fx + 2).toNatClampNeg (rwN (uN (L.1 3) % 268435456))) 20 (fx + 3).toNatClampNeg (rwN (uN (L.1 4) % 268435456))) 1901 fx = τ
  have τ1 : ∀ j, ¬ j = 1901 → τ.1 j = σ.1 j := fun j hj => by rw [← hH]; exact upd_other hj
  have τ2 : τ.1 1901 = fx := by rw [← hH]; rfl
  have τ3 : τ.2.1 = σ.2.1 ∧ τ.2.2.2 = σ.2.2.2 := by rw [← hH]; exact ⟨rfl, rfl⟩
  have τ4 : ∀ k, ¬ k = 20 → τ.2.2.1 k = σ.2.2.1 k := fun k hk => by
    rw [← hH]
    show updG (updG (updG (updG σ.2.2.1 20 _) 20 _) 20 _) 20 _ k = _
    rw [updG_other hk, updG_other hk, updG_other hk, updG_other hk]
  have τ5 : τ.2.2.1 20 = upd (upd (upd (upd (σ.2.2.1 20) f (rwN (uN (L.1 2) % 268435456))) (f + 1) (rwN (uN (σ.1 1901) % 268435456))) (f + 2) (rwN (uN (L.1 3) % 268435456))) (f + 3) (rwN (uN (L.1 4) % 268435456)) := by
    rw [← hH, k0, k1, k2, k3]
    rfl
  have md : Md σ τ := ⟨fun j hj => τ1 j (by omega), fun j _ => by rw [τ3.1], fun k hk => τ4 k (by omega), ⟨fun k _ => by show τ.2.2.2.2.1 k = _; rw [τ3.2], by show _ ≤ τ.2.2.2.2.1 20; rw [τ3.2]; exact Nat.le_refl _⟩, by rw [τ3.2], by rw [τ3.2]⟩
  have rr : ∀ z : Int32, Rr (rwN (uN z % 268435456)) := fun z => rwN_r (by omega)
  have rw1 : Rwk g (τ.2.2.1 3) (Kh K f (rwN (uN (L.1 2) % 268435456)) (rwN (uN (σ.1 1901) % 268435456)) (rwN (uN (L.1 3) % 268435456)) (rwN (uN (L.1 4) % 268435456))) (τ.2.2.1 20) (uN (τ.1 1902)) := by
    rw [τ1 1902 (by decide), τ5, τ4 3 (by decide)]
    intro j hj
    have pin : ∀ z : Int32, Rr z → Gw g z ∧ (some z = none → Gv g z) ∧ ∀ v, some z = some v → (z = v ∧ Rr v) ∨ Mkd g (σ.2.2.1 3) v z := fun z hz => Rwp hz
    by_cases j3 : j = f + 3
    · rw [j3, upd_same, Kh_i.2.2.2]; exact pin _ (rr _)
    rw [upd_other j3]
    by_cases j2 : j = f + 2
    · rw [j2, upd_same, Kh_i.2.2.1]; exact pin _ (rr _)
    rw [upd_other j2]
    by_cases j1 : j = f + 1
    · rw [j1, upd_same, Kh_i.2.1]; exact pin _ (rr _)
    rw [upd_other j1]
    by_cases j0 : j = f
    · rw [j0, upd_same, Kh_i.1]; exact pin _ (rr _)
    rw [upd_other j0, Kh_o (by omega)]
    exact st3 j hj
  have nτ : sN τ 20 = sN σ 20 := by show τ.2.2.2.2.1 20 = _; rw [τ3.2]
  have e02 := τ1 1902 (by decide)
  have vτ := VI_20 mi.2.1 md (τ4 23 (by decide)) ⟨fun _ z => z, fun p _ => by rw [τ4 3 (by decide)]⟩ (by rw [e02, nτ]; exact st1) (by rw [nτ]; exact st2) rw1
  have hqτ : HQ g l t τ := HQ_fr mi.1 (τ1 1 (by decide)) (τ4 3 (by decide)) (by rw [τ3.2])
  have kbτ : ∀ j, j < B → Kh K f (rwN (uN (L.1 2) % 268435456)) (rwN (uN (σ.1 1901) % 268435456)) (rwN (uN (L.1 3) % 268435456)) (rwN (uN (L.1 4) % 268435456)) j = KB j := fun j hj => by rw [Kh_o (by omega)]; exact mi.2.2.2.2.2.1 j hj
  have miτ := MIn_d mi md hqτ vτ kbτ (by rw [e02]; exact mi.2.2.2.2.2.2.1.2)
  have ebτ : sPr τ = some b := by show τ.2.2.2.2.2.1.2.2.1 = _; rw [τ3.2]; exact eb
  have crτ := (Ct_row miτ.2.2.1 ebτ).2.2 v hv
  have en : uN (τ.2.2.1 (pR18 b) v - τ.2.2.1 (pR14 b) v) = tcF c v - tcP c v := by
    rw [u_sub (by omega), crτ.2.1, crτ.2.2]
  refine Tm_suc (fun k => by rw [f_X3_enter]) ?_
  refine Tm_oP ebτ ?_
  refine Tm_chk i1 ?_
  refine Tm_oP ebτ ?_
  refine Tm_chk i1 ?_
  have c1' : ((lI (lI (lI L 5 fx) 100 (rwN (uN (σ.1 1901) % 268435456))) 101 (fx + 1)).1 1).toNatClampNeg = v := c1
  refine Tm_oxc (c_pushAll (by rw [e02, nτ]; exact st1) (by rw [nτ]; exact st2) (by
    show uN (τ.2.2.1 (pR18 b) (L.1 1).toNatClampNeg - τ.2.2.1 (pR14 b) (L.1 1).toNatClampNeg) ≤ 1000000
    rw [c1, en]; omega)) (fun q z => by rw [z.1]) (fun q z => ?_)
  have en' : uN ((lI (lI lZ 1 (-2147483648)) 2 (τ.2.2.1 (pR18 b) (L.1 1).toNatClampNeg - τ.2.2.1 (pR14 b) (L.1 1).toNatClampNeg)).1 2) = tcF c v - tcP c v := by
    show uN (τ.2.2.1 (pR18 b) (L.1 1).toNatClampNeg - τ.2.2.1 (pR14 b) (L.1 1).toNatClampNeg) = _
    rw [c1]; exact en
  have z' : PuO τ (-2147483648) (tcF c v - tcP c v) q := by rw [← en']; exact z
  have p3 := z'.2.2.1
  have ebq : sPr q.2.1 = some b := by show q.2.1.2.2.2.2.2.1.2.2.1 = _; rw [p3.2.2.2.2.2]; exact ebτ
  have mdq : Md σ q.2.1 := Md_t md (Md_S p3)
  have ctq := CtL_M mi.2.2.1 (Md_M mdq)
  have crq := (Ct_row ctq ebq).2.2 v hv
  refine Tm_oP ebq ?_
  refine Tm_chk i1 ?_
  have pm := pu_MIn (σ' := uI q.2.1 1900 (q.2.1.2.2.1 (pR13 b) (L.1 1).toNatClampNeg)) miτ (Gv_om g) z' rfl (fun j hj => upd_other hj)
  obtain ⟨m1, m2, m3⟩ := pm
  have ph := Ph_s (σ := σ) (σ' := τ) (by rw [τ3.2])
  refine Tm_some ⟨rfl, ⟨by rw [← ph.1]; exact m3.1, by rw [← ph.2]; exact m3.2⟩, Md_t md m2, ?_, ?_, _, m1, ?_⟩
  · intro j hj
    show upd q.2.1.1 1900 _ j = _
    rw [upd_other (by omega)]
    by_cases z1 : j = 1905
    · subst z1
      rcases z'.2.2.2.2.2.2 with a | a
      · exact a.2.2.2.2.2.trans (τ1 1905 (by decide))
      · exact a.2.2.2.1.trans (τ1 1905 (by decide))
    by_cases z2 : j = 1
    · subst z2
      exact z'.2.2.2.1.1.trans (τ1 1 (by decide))
    exact (p3.1 j (by omega)).trans (τ1 j (by omega))
  · show uN (q.2.1.2.2.1 (pR13 b) (L.1 1).toNatClampNeg) = _
    rw [c1]; exact crq.1
  · rcases z'.2.2.2.2.2.2 with ⟨a1, a2, a3, a4, a5, a6⟩ | ⟨a1, a2, a3, a4⟩
    · right
      refine ⟨a4.trans (τ1 1812 (by decide)), ?_, ?_, ?_, ?_⟩
      · show uN (q.2.1.1 1901) = f
        rw [p3.1 1901 (by decide), τ2]; exact ef
      · show uN (q.2.1.1 1902) = _
        rw [a1, e02]
        omega
      · intro p hp
        rw [e02]
        exact Kw_o (Or.inl (by omega))
      · intro p h1' h2'
        rw [e02]
        rcases Nat.lt_or_ge p (uN (σ.1 1902)) with y | y
        · rw [Kw_o (Or.inl y), Kh_o (Or.inr h1')]
          exact sl.2 p (by omega) y
        · exact Kw_i y (by omega)
    · exact Or.inl ⟨a3, a4.2⟩
end CSW
end JnS385
section JnS386
/-! The class: funcs are called, and end. -/
section CSX
variable {g g' g2 : Nat → Prop} {l l' l2 : List Nat} {t t' t2 : Nat} {σ σ' σ2 : CS} {L : LV} {x y i : Int32} {M M' U U' : Nat → Int32} {K K' K2 K3 K4 KB : Nat → Option Int32} {c : Ct} {B f0 u0 : Nat} {fs : List FrT} {u d : Nat} {r : List Nat} {pb nf nc sq rk : Nat}
/-- where a call comes back to -/
def NxR (c : Ct) (p u d : Nat) (r : List Nat) : Prop := ∃ rk, tcD c p = some (u, d, r, rk) ∧ rk ≤ RK ∧ tcF c u ≤ bt d r
/-- fields alone -/
theorem MIn_fl (mi : MIn c g l t K K2 K3 K4 B KB σ) (e2 : σ'.2 = σ.2) (ej : ∀ j, ¬ (j = 1811 ∨ j = 1812 ∨ j = 1813 ∨ j = 1815 ∨ j = 1816 ∨ j = 1900 ∨ j = 1901 ∨ j = 1902 ∨ j = 1905) → σ'.1 j = σ.1 j) (h1 : B ≤ uN (σ'.1 1902)) (h2 : uN (σ'.1 1902) ≤ uN (σ.1 1902)) : MIn c g l t K K2 K3 K4 B KB σ' ∧ Md σ σ' := by
  have md : Md σ σ' := ⟨fun j hj => ej j (by omega), fun _ _ => by rw [e2], fun _ _ => by rw [e2], ⟨fun _ _ => by show σ'.2.2.2.2.1 _ = _; rw [e2], by show _ ≤ σ'.2.2.2.2.1 20; rw [e2]; exact Nat.le_refl _⟩, by rw [e2], by rw [e2]⟩
  obtain ⟨st1, st2, st3⟩ := mi.2.1.1
  have n20 : sN σ' 20 = sN σ 20 := by show σ'.2.2.2.2.1 20 = _; rw [e2]
  have v := VI_20 mi.2.1 md (by rw [e2]) ⟨fun _ z => z, fun p _ => by rw [e2]⟩ (K' := K) (by rw [n20]; omega) (by rw [n20]; exact st2) (by rw [e2]; exact fun j hj => st3 j (by omega))
  exact ⟨MIn_d mi md (HQ_fr mi.1 (ej 1 (by decide)) (by rw [e2]) (by rw [e2])) v mi.2.2.2.2.2.1 h1, md⟩
/-- places below those in use now -/
theorem fr_B (p : Pre c g l t K K2 K3 K4 B KB f0 u0 σ fs u d r pb nf nc sq) {d' n : Nat} (e : d = d' + n) (hb : tcF c u ≤ bt d' r) : B ≤ uN (σ.1 1902) - n := by
  have ts := TyS_sp p.2.1
  have st := p.1.2.1.1
  have z := Pre_dr (x := nI n) p e (u_n (by omega)) hb
  have q := z.1.1.2.2.2.2.2.2.1.2
  have q' : B ≤ uN (σ.1 1902 - nI n) := q
  rw [z.2] at q'
  exact q'
theorem c_callFunc {r0 : List Nat} (p : Pre c g l t K K2 K3 K4 B KB f0 u0 σ fs u d r0 pb nf nc sq) {pc v d0 : Nat} (hpc : σ.1 1900 = nI (pc + 1)) (hp : pc + 1 < tcN c) (hN : tcN c ≤ 36864) (h1 : L.1 1 = nI v) (hv : v < 41) (kv : tcK c v) (k : d = tcP c v ∧ r0 = (250000 + d0) :: r ∧ d0 < 250000) (fb : tcF c u ≤ bt d0 r) (pf : tcP c v ≤ tcF c v ∧ tcF c v ≤ 1000) (ps : uN (tcC c (pc + 1) >>> ((8 : Int32) &&& 31)) ≤ 180) (pm : ∀ (K : Nat → Option Int32) (pb : Nat), PaM K pb 180 r → PaM K pb (uN (tcC c (pc + 1) >>> ((8 : Int32) &&& 31))) r) (nx : NxR c (pc + 2) u (d0 + 1) r) (en : NxR c (tcE c v) v 0 ((bsl + tcF c v) :: Vl (tcF c v))) : Tm (fun k => f_X3_callFunc k 0 L σ) (fun q => q.1.1 = 0 ∧ IO c B KB f0 u0 σ (mu σ (qv nf sq rk)) ((0, 0), q.2.1, (q.2.2.1 + 0, q.2.2.2 + 0))) := by
  have mi := p.1
  have ty := p.2.1
  obtain ⟨st1, st2, st3⟩ := mi.2.1.1
  have ts := TyS_sp ty
  obtain ⟨k0, k00, kd⟩ := k
  subst k00
  have rf := SL_rf kd ty.1
  have fbB : B ≤ uN (σ.1 1902) - (4 + tcP c v) := by
    obtain ⟨pd, es⟩ := Pre_dp (x := nI (d + 4)) (d' := d0) (r' := r) p (by
      rw [u_n (by omega)]
      exact ⟨fun K lo hi h => ⟨(SL_rf kd h).1, (SL_rf kd h).2.1⟩, fun K pb m h => h.2 (by unfold bsl; omega)⟩) fb
    have q := pd.1.2.2.2.2.2.2.1.2
    have q' : B ≤ uN (σ.1 1902 - nI (d + 4)) := q
    rw [es, u_n (by omega)] at q'
    omega
  obtain ⟨b, eb, _⟩ := mi.2.2.1
  have cr := Ct_row mi.2.2.1 eb
  have e9 : uN (σ.1 1900) = pc + 1 := by rw [hpc, u_n (by omega)]
  have i9 : ¬ (σ.1 1900 < 0 ∨ sN σ (pR0 (sKd σ b)) ≤ (σ.1 1900).toNatClampNeg) := u_in (by rw [e9, cr.2.1]; exact hp) (by rw [cr.2.1]; omega)
  have c9 : (σ.1 1900).toNatClampNeg = pc + 1 := by rw [u_cl (by omega)]; exact e9
  have nf20 := ty.2.2.2.1
  have b1 : ∀ L' : LV, Tm (fun k => f_X3_callFunc k 1 L' σ) (fun q => q.1.1 = 0 ∧ IO c B KB f0 u0 σ (mu σ (qv nf sq rk)) ((0, 0), q.2.1, (q.2.2.1 + 0, q.2.2.2 + 0))) := by
    intro L'
    refine Tm_suc (fun k => by rw [f_X3_callFunc]) ?_
    refine Tm_op c_fail (fun q e => ?_)
    rw [e]
    refine Tm_some ⟨rfl, ha_fin p rfl (fun j hj => ?_) rfl (f13 (by decide))⟩
    show upd (upd σ.1 1813 _) 1812 1 j = _
    rw [upd_other (by omega), upd_other (by omega)]
  refine Tm_suc (fun k => by rw [f_X3_callFunc]) ?_
  refine Tm_oP eb ?_
  refine Tm_chk i9 ?_
  refine Tm_oP eb ?_
  refine Tm_chk i9 ?_
  refine Tm_ite (fun _ => b1 _) (fun c20 => ?_)
  have u20 : uN (20 : Int32) = 20 := rfl
  rw [u_le (by decide) (by omega), u20, nf20.1] at c20
  refine Tm_ite (fun _ => ?_) (fun _ => b1 _)
  rw [c9, cr.1]
  generalize tcC c (pc + 1) &&& 255 = dp
  generalize hps : tcC c (pc + 1) >>> ((8 : Int32) &&& 31) = px at *
  have e11 := ty.2.2.2.2.1
  have fcb := (FC_b _ _ _ _ _ _ _ ty.2.1).1
  refine Tm_suc (fun k => by rw [f_X3_callFunc]) ?_
  -- the state with its counts
  show Tm (fun k => f_X3_callFunc k 3 (lI (lI L 2 dp) 3 px) (uI (uI (uI σ 1815 (σ.1 1815 + 1)) 1816 (σ.1 1816 + dp)) 1811 (σ.1 1811 + px))) _
  generalize hH : uI (uI (uI σ 1815 (σ.1 1815 + 1)) 1816 (σ.1 1816 + dp)) 1811 (σ.1 1811 + px) = τ
  have τe : ∀ j, ¬ (j = 1811 ∨ j = 1815 ∨ j = 1816) → τ.1 j = σ.1 j := fun j hj => by
    rw [← hH]
    show upd (upd (upd σ.1 1815 _) 1816 _) 1811 _ j = _
    rw [upd_other (by omega), upd_other (by omega), upd_other (by omega)]
  have τ15 : uN (τ.1 1815) = nf + 1 := by
    have e : τ.1 1815 = σ.1 1815 + 1 := by rw [← hH]; rfl
    rw [e, u_inc (by omega), nf20.1]
  have τ11 : uN (τ.1 1811) = pb + uN px := by
    have e : τ.1 1811 = σ.1 1811 + px := by rw [← hH]; rfl
    rw [e, u_add (by omega), e11]
  have τ2 : τ.2 = σ.2 := by rw [← hH]; rfl
  have e02 := τe 1902 (by decide)
  have e01 := τe 1901 (by decide)
  have mt := MIn_fl (σ' := τ) mi τ2 (fun j hj => τe j (by omega)) (by rw [e02]; exact mi.2.2.2.2.2.2.1.2) (by rw [e02]; exact Nat.le_refl _)
  obtain ⟨miτ, mdτ⟩ := mt
  have slτ : uN (τ.1 1901) + 8 + tcP c v ≤ uN (τ.1 1902) ∧ ∀ p, uN (τ.1 1902) - tcP c v ≤ p → p < uN (τ.1 1902) → K p = none := by
    rw [e01, e02, ← k0]; exact ⟨by have := rf.2.2.2.1; omega, rf.2.2.1⟩
  refine Tm_suc (fun k => by rw [f_X3_callFunc]) ?_
  refine Tm_oxc (c_enter (v := v) miτ slτ (by rw [e02]; omega) (by omega) pf h1) (fun q z => by rw [z.1]) (fun q z => ?_)
  obtain ⟨z1, z2, z3, z4, z5, K', z6, z7⟩ := z
  refine Tm_some ⟨rfl, ?_⟩
  have ph := Ph_s (σ := σ) (σ' := τ) (by rw [τ2])
  have z21 := z2.1
  have z22 := z2.2
  have mdq := Md_t mdτ z3
  refine ⟨rfl, ⟨by show q.2.2.1 + 0 + 0 + PhC q.2.1 ≤ _; omega, by show q.2.2.2 + 0 + 0 + PhS q.2.1 ≤ _; omega⟩, Md_M mdq, fun _ => Md_E mdq, g, l, t, K', K2, K3, K4, z6, fun h0 => ?_, fun h0 => ?_⟩
  rotate_left
  · rcases z7 with z7 | z7
    · exact Or.inl z7.2
    · exact absurd (z7.1.trans ((τe 1812 (by decide)).trans p.2.2.2.1)) h0
  rcases z7 with z7 | ⟨a1, a2, a3, a4, a5⟩
  · have h0' : q.2.1.1 1812 = 0 := h0
    rw [z7.1] at h0'
    exact absurd h0' (by decide)
  rw [e02] at a2 a3 a4 a5
  generalize hF : uN (σ.1 1902) - tcP c v - 4 = f at *
  obtain ⟨rk', r1, r2, r3⟩ := en
  obtain ⟨rb, n1, n2, n3⟩ := nx
  have hd := Kh_i (K := K) (f := f) (a := rwN (uN (τ.1 1900 + 1) % 268435456)) (b := rwN (uN (τ.1 1901) % 268435456)) (e := rwN (uN dp % 268435456)) (h := rwN (uN px % 268435456))
  have sl0 : SL K (uN (σ.1 1901) + 4) f d0 r := by
    have z := rf.2.1
    rw [show uN (σ.1 1902) - (d + 4) = f from by omega] at z
    exact z
  have sl0e := (SL_le _ _ _ sl0).2
  have e0 : uN (τ.1 1900 + 1) % 268435456 = pc + 2 := by
    rw [u_inc (by rw [τe 1900 (by decide)]; omega), τe 1900 (by decide), e9]; omega
  have ty' : TyS c K' K4 f0 u0 q.2.1 ((uN (σ.1 1901), u, d0, r, pb, nf, nc, sq) :: fs) v 0 ((bsl + tcF c v) :: Vl (tcF c v)) (pb + uN px) (nf + 1) nc sq := by
    unfold TyS
    rw [a2, a3, z4 1815 (by decide), z4 1811 (by decide), z4 1908 (by decide), τ15, τ11, τe 1908 (by decide)]
    refine ⟨SL_mkV (by omega) (by omega) (fun p h1 h2 => a5 p h1 (by omega)), ⟨⟨pc + 2, rb, rwN (uN dp % 268435456), rwN (uN px % 268435456), ⟨?_, ?_, ?_, ?_⟩, ⟨rwN_r (by omega), rwN_r (by omega), by omega⟩, ?_, fb, pf.1, ⟨n2, ty.2.2.2.2.2.2.2.1⟩, Or.inl ⟨kv, n1, ?_, ?_, rfl, rfl, rfl, ?_⟩⟩, ?_⟩, by rw [bt_0]; exact Nat.le_refl _, ⟨rfl, by omega⟩, rfl, ty.2.2.2.2.2.1, ty.2.2.2.2.2.2.1, by omega, PaM_0 (Vl_b _ (by omega))⟩
    · rw [a4 f (by omega), ← e0]; exact hd.1
    · rw [a4 (f + 1) (by omega)]
      have e1 : uN (τ.1 1901) % 268435456 = uN (σ.1 1901) := by rw [e01]; omega
      exact hd.2.1.trans (by rw [e1])
    · rw [a4 (f + 2) (by omega)]; exact hd.2.2.1
    · rw [a4 (f + 3) (by omega)]; exact hd.2.2.2
    · exact SL_eq _ _ _ (fun p h1 h2 => by rw [a4 p (by omega)]; exact Kh_o (Or.inl h2)) sl0
    · show pb + uN px = pb + uN (rwN (uN px % 268435456)) % 268435456
      rw [rwN_u (by omega)]; omega
    · rw [rwN_u (by omega)]; omega
    · have z := pm K4 pb (ty.2.2.2.2.2.2.2.2.2 (by unfold bsl; omega))
      rw [rwN_u (by omega), show (4026531840 + uN px % 268435456) % 268435456 = uN px from by omega]
      exact z
    · exact FC_k ty.2.1 (fun p hp => by rw [a4 p (by omega)]; exact Kh_o (Or.inl (by omega))) (fun _ _ => rfl)
  refine ⟨qv (nf + 1) sq rk', ⟨by rw [z4 1905 (by decide), τe 1905 (by decide)]; exact p.2.2.1, v, 0, (bsl + tcF c v) :: Vl (tcF c v), rk', _, _, _, _, _, Or.inl ⟨ty', by rw [z5]; exact r1, rfl⟩⟩, ?_⟩
  unfold mu qv
  rw [z4 1905 (by decide), τe 1905 (by decide), z4 1814 (by decide), τe 1814 (by decide)]
  have e20 : (20 - nf) * (RK + 1) = (20 - (nf + 1)) * (RK + 1) + (RK + 1) := by
    rw [show 20 - nf = (20 - (nf + 1)) + 1 from by omega, Nat.add_mul, Nat.one_mul]
  omega
theorem c_pop (h1 : 1 ≤ uN (σ.1 1902)) (h2 : uN (σ.1 1902) ≤ sN σ 20) (h3 : sN σ 20 ≤ 91000) : Tm (fun k => y_X3_pop k 0 L σ) (fun q => q = (σ.2.2.1 20 (uN (σ.1 1902) - 1), uI σ 1902 (σ.1 1902 - 1)) ∧ uN (σ.1 1902 - 1) = uN (σ.1 1902) - 1) := by
  have u1 : uN (1 : Int32) = 1 := rfl
  have es : uN (σ.1 1902 - 1) = uN (σ.1 1902) - 1 := by rw [u_sub (by omega), u1]
  refine Tm_suc (fun k => by rw [y_X3_pop]) ?_
  refine Tm_chk (u_in (x := σ.1 1902 - 1) (by show uN (σ.1 1902 - 1) < sN σ 20; omega) (by show sN σ 20 ≤ _; omega)) ?_
  refine Tm_some ⟨Prod.ext ?_ rfl, es⟩
  show σ.2.2.1 20 (σ.1 1902 - 1).toNatClampNeg = _
  rw [u_cl (by omega), es]
/-- what a pin says -/
theorem mk_nr {v : Int32} (h : Rr v) : ¬ v = mkR := fun e => by
  rw [e] at h
  exact absurd h (by show ¬ 4026531840 ≤ uN mkR; decide)
theorem mk_nm {x v : Int32} (h : Rr v) : ¬ Mkd g M v x := fun z => by
  rcases z with z | z | z
  · exact mk_nr h z.1
  · rw [z.1] at h
    exact absurd h (by show ¬ 4026531840 ≤ uN mkT; decide)
  · rw [z] at h
    exact absurd h (by show ¬ 4026531840 ≤ uN mkC; decide)
theorem mk_w {x : Int32} (h : Mkd g M mkR x) : Gv g x ∧ NoW M x := by
  rcases h with z | z | z
  · exact z.2
  · exact absurd z.1 (by decide)
  · exact absurd z (by decide)
theorem mk_t {x : Int32} (h : Mkd g M mkT x) : Gv g x ∧ NoT M x := by
  rcases h with z | z | z
  · exact absurd z.1 (by decide)
  · exact z.2
  · exact absurd z (by decide)
theorem pin_v (st : Rwk g M K (σ.2.2.1 20) (uN (σ.1 1902))) {p : Nat} {v : Int32} (h : p < uN (σ.1 1902)) (k : K p = some v) (hr : Rr v) : σ.2.2.1 20 p = v := (((st p h).2.2 v k).resolve_right (mk_nm hr)).1
theorem PaM_up {pb m m' : Nat} (h : m ≤ m') : ∀ r : List Nat, PaM K pb m r → PaM K pb m' r
  | [], _ => trivial
  | e :: r, q => ⟨fun c i h1 h2 => ⟨by have z := (q.1 c i h1 h2).1; omega, (q.1 c i h1 h2).2⟩, fun c => PaM_up h r (q.2 c)⟩
theorem unr {n : Nat} (h : n < 268435456) : uN (rwN n) % 268435456 = n := by rw [rwN_u h]; omega
theorem c_endFunc (p : Pre c g l t K K2 K3 K4 B KB f0 u0 σ fs u d r pb nf nc sq) (hd : 1 ≤ d) (ku : tcK c u) (hu0 : ¬ tcK c u0) (q0 : Nat) : Tm (fun k => f_X3_endFunc k 0 L σ) (fun q => q.1.1 = 0 ∧ IO c B KB f0 u0 σ (mu σ q0) ((0, 0), q.2.1, (q.2.2.1 + 0, q.2.2.2 + 0))) := by
  have mi := p.1
  have ty := p.2.1
  obtain ⟨st1, st2, st3⟩ := mi.2.1.1
  have ts := TyS_sp ty
  obtain ⟨t1, t2, t3, t4, t5, t6, t7⟩ := ty
  cases fs with
  | nil =>
    exfalso
    have e := t2.2.1
    rw [e] at ku
    exact hu0 ku
  | cons w fs =>
    obtain ⟨⟨bk, rb, z2, z3, ⟨a0, a1, a2, a3⟩, ⟨b1, b2, b3⟩, s, f1, f2, f3, kk⟩, wt⟩ := t2
    have kf : tcK c u ∧ tcD c bk = some (w.2.1, w.2.2.1 + 1, w.2.2.2.1, rb) ∧ pb = w.2.2.2.2.1 + uN z3 % 268435456 ∧ uN z3 % 268435456 ≤ 180 ∧ nf = w.2.2.2.2.2.1 + 1 ∧ nc = w.2.2.2.2.2.2.1 ∧ sq = w.2.2.2.2.2.2.2 ∧ PaM K4 w.2.2.2.2.1 (uN z3 % 268435456) w.2.2.2.1 := by
      rcases kk with z | z
      · exact z
      · exact absurd ku z.1.1
    obtain ⟨-, k2, k3, k4, k5, k6, k7, k8⟩ := kf
    have sle := SL_le _ _ _ s
    have v0 := pin_v st3 (by omega) a0 (rwN_r b3)
    have v1 := pin_v st3 (by omega) a1 (rwN_r (by omega))
    have v2 := pin_v st3 (by omega) a2 b1
    have v3 := pin_v st3 (by omega) a3 b2
    generalize hfp : uN (σ.1 1901) = fp at *
    have u1 : uN (1 : Int32) = 1 := rfl
    have u2 : uN (2 : Int32) = 2 := rfl
    have u3 : uN (3 : Int32) = 3 := rfl
    have gh := (Ty_v p (q := (uN (σ.1 1902) - 1)) (by omega) (by omega))
    have n20 : sN σ 20 ≤ 2147483648 := by omega
    have b3 : ∀ (τ : CS) (L' : LV), τ.2 = σ.2 → (∀ j, ¬ (j = 1811 ∨ j = 1815 ∨ j = 1816 ∨ j = 1900 ∨ j = 1901 ∨ j = 1902) → τ.1 j = σ.1 j) → uN (τ.1 1900) = bk → uN (τ.1 1901) = w.1 → uN (τ.1 1815) = w.2.2.2.2.2.1 → uN (τ.1 1811) = w.2.2.2.2.1 → Gv g (L'.1 1) → uN (L'.1 2) = fp → Tm (fun k => f_X3_endFunc k 3 L' τ) (fun q => q.1.1 = 0 ∧ IO c B KB f0 u0 σ (mu σ q0) ((0, 0), q.2.1, (q.2.2.1 + 0, q.2.2.2 + 0))) := by
      intro τ L' τ2 τe e0 e1 e15 e11 gx l2
      refine Tm_suc (fun k => by rw [f_X3_endFunc]) ?_
      generalize hH : uI τ 1902 (L'.1 2) = ρ
      have ρe : ∀ j, ¬ j = 1902 → ρ.1 j = τ.1 j := fun j hj => by rw [← hH]; exact upd_other hj
      have ρ2 : ρ.2 = σ.2 := by rw [← hH]; exact τ2
      have ρsp : uN (ρ.1 1902) = fp := by rw [← hH]; exact l2
      have bb : B ≤ fp := by
        rcases p.2.2.2.2 with z | z
        · have y := (FC_f0 _ _ _ _ _ _ _ wt).1
          omega
        · rcases FC_B _ _ _ _ _ _ _ wt with e | e
          · rw [e.1] at sle
            rw [e.2] at f1
            omega
          · omega
      have mt := MIn_fl (σ' := ρ) mi ρ2 (fun j hj => (ρe j (by omega)).trans (τe j (by omega))) (by rw [ρsp]; exact bb) (by rw [ρsp]; omega)
      have ty' : TyS c K K4 f0 u0 ρ fs w.2.1 w.2.2.1 w.2.2.2.1 w.2.2.2.2.1 w.2.2.2.2.2.1 w.2.2.2.2.2.2.1 w.2.2.2.2.2.2.2 := by
        unfold TyS
        rw [ρe 1901 (by decide), e1, ρsp, ρe 1815 (by decide), e15, ρe 1811 (by decide), e11, ρe 1908 (by decide), τe 1908 (by decide), ← k6]
        refine ⟨s, by rw [k6]; exact wt, f1, ⟨rfl, by omega⟩, rfl, t6, t7.1, f3.2, PaM_up k4 _ k8⟩
      have pr : Pre c g l t K K2 K3 K4 B KB f0 u0 ρ fs w.2.1 w.2.2.1 w.2.2.2.1 w.2.2.2.2.1 w.2.2.2.2.2.1 w.2.2.2.2.2.2.1 w.2.2.2.2.2.2.2 := ⟨mt.1, ty', by rw [ρe 1905 (by decide), τe 1905 (by decide)]; exact p.2.2.1, by rw [ρe 1812 (by decide), τe 1812 (by decide)]; exact p.2.2.2.1, p.2.2.2.2⟩
      refine Tm_oxc (giX pr mt.2 (by rw [ρ2]) ((ρe 1905 (by decide)).trans (τe 1905 (by decide))) ((ρe 1814 (by decide)).trans (τe 1814 (by decide))) gx ?_ q0) (fun q z => z.1) (fun q z => ?_)
      · rw [ρe 1900 (by decide), e0]
        exact ⟨rb, NxD_r k2 (Nat.le_trans f1 (bt_m _ 1 _)), by omega, Nat.le_trans f1 (bt_m _ 1 _)⟩
      · exact Tm_some ⟨rfl, z.2⟩
    have b2' : ∀ (τ : CS) (L' : LV), τ.2 = σ.2 → (∀ j, ¬ (j = 1811 ∨ j = 1815 ∨ j = 1816 ∨ j = 1900 ∨ j = 1901 ∨ j = 1902) → τ.1 j = σ.1 j) → uN (L'.1 100) = bk → uN (τ.1 1815) = w.2.2.2.2.2.1 → uN (τ.1 1811) = w.2.2.2.2.1 → Gv g (L'.1 1) → uN (L'.1 2) = fp → Tm (fun k => f_X3_endFunc k 2 L' τ) (fun q => q.1.1 = 0 ∧ IO c B KB f0 u0 σ (mu σ q0) ((0, 0), q.2.1, (q.2.2.1 + 0, q.2.2.2 + 0))) := by
      intro τ L' τ2 τe e0 e15 e11 gx l2
      have ei : uN (L'.1 2 + 1) = fp + 1 := by rw [u_inc (by omega), l2]
      have es : sN τ 20 = sN σ 20 := by show τ.2.2.2.2.1 20 = _; rw [τ2]
      refine Tm_suc (fun k => by rw [f_X3_endFunc]) ?_
      refine Tm_chk (u_in (x := L'.1 2 + 1) (by show _ < sN τ 20; rw [es]; omega) (by show sN τ 20 ≤ _; rw [es]; exact n20)) ?_
      refine Tm_op c_unraw (fun q e => ?_)
      rw [e]
      refine b3 _ _ τ2 (fun j hj => ?_) e0 ?_ e15 e11 gx l2
      · show upd (upd τ.1 1900 _) 1901 _ j = _
        rw [upd_other (by omega), upd_other (by omega)]
        exact τe j (by omega)
      · show uN (nI (uN (τ.2.2.1 20 (L'.1 2 + 1).toNatClampNeg) % 268435456)) = _
        rw [u_cl (by omega), ei, τ2, v1, u_n (by omega), unr (by omega)]
    have b1' : ∀ (τ : CS) (L' : LV), τ.2 = σ.2 → (∀ j, ¬ (j = 1815 ∨ j = 1816 ∨ j = 1902) → τ.1 j = σ.1 j) → uN (τ.1 1815) = w.2.2.2.2.2.1 → Gv g (L'.1 1) → uN (L'.1 2) = fp → Tm (fun k => f_X3_endFunc k 1 L' τ) (fun q => q.1.1 = 0 ∧ IO c B KB f0 u0 σ (mu σ q0) ((0, 0), q.2.1, (q.2.2.1 + 0, q.2.2.2 + 0))) := by
      intro τ L' τ2 τe e15 gx l2
      have ei : uN (L'.1 2 + 3) = fp + 3 := by rw [u_add (by omega), l2, u3]
      have es : sN τ 20 = sN σ 20 := by show τ.2.2.2.2.1 20 = _; rw [τ2]
      refine Tm_suc (fun k => by rw [f_X3_endFunc]) ?_
      refine Tm_chk (u_in (x := L'.1 2 + 3) (by rw [es]; omega) (by rw [es]; exact n20)) ?_
      refine Tm_op c_unraw (fun q e => ?_)
      rw [e]
      refine Tm_chk (u_in (x := L'.1 2) (by show _ < sN τ 20; rw [es]; omega) (by show sN τ 20 ≤ _; rw [es]; exact n20)) ?_
      refine Tm_op c_unraw (fun q2 e2 => ?_)
      rw [e2]
      refine b2' _ _ τ2 (fun j hj => ?_) ?_ ?_ ?_ gx l2
      · show upd τ.1 1811 _ j = _
        rw [upd_other (by omega)]
        exact τe j (by omega)
      · show uN (nI (uN (τ.2.2.1 20 (L'.1 2).toNatClampNeg) % 268435456)) = _
        rw [u_cl (by omega), l2, τ2, v0, u_n (by omega), unr (by omega)]
      · exact e15
      · show uN (τ.1 1811 - nI (uN (τ.2.2.1 20 (L'.1 2 + 3).toNatClampNeg) % 268435456)) = _
        have ev : uN (nI (uN (τ.2.2.1 20 (L'.1 2 + 3).toNatClampNeg) % 268435456)) = uN z3 % 268435456 := by rw [u_cl (by omega), ei, τ2, v3, u_n (by omega)]
        rw [u_sub (by rw [ev, τe 1811 (by decide)]; omega), ev, τe 1811 (by decide)]
        omega
    have ei : uN (σ.1 1901 + 2) = fp + 2 := by rw [u_add (by omega), hfp, u2]
    refine Tm_suc (fun k => by rw [f_X3_endFunc]) ?_
    refine Tm_op (c_pop (by omega) st1 st2.2) (fun q e => ?_)
    rw [e.1]
    refine Tm_chk (u_in (x := σ.1 1901 + 2) (by show _ < sN σ 20; omega) (by show sN σ 20 ≤ _; exact n20)) ?_
    refine Tm_op c_unraw (fun q2 e2 => ?_)
    rw [e2]
    refine b1' _ _ rfl (fun j hj => ?_) ?_ gh hfp
    · show upd (upd (upd σ.1 1902 _) 1815 _) 1816 _ j = _
      rw [upd_other (by omega), upd_other (by omega), upd_other (by omega)]
    · show uN (σ.1 1815 - 1) = _
      rw [u_sub (by omega), u1, t4.1]; omega
end CSX
end JnS386
section JnS387
/-! The class: procs are called, and end. -/
section CSY
variable {g g' g2 : Nat → Prop} {l l' l2 : List Nat} {t t' t2 : Nat} {σ σ' σ2 : CS} {L : LV} {x y i : Int32} {M M' U U' : Nat → Int32} {K K' K2 K3 K4 KB : Nat → Option Int32} {c : Ct} {B f0 u0 : Nat} {fs : List FrT} {u d : Nat} {r : List Nat} {pb nf nc sq rk : Nat}
theorem Tm_oB {o : Option Bool} {b : Bool} {f : Nat → Bool → Option (Int32 × CS)} {Q : Int32 × CS → Prop} (e : o = some b) (h : Tm (fun k => f k b) Q) : Tm (fun k => oB o (f k)) Q := by
  rw [e]; exact h
/-- fields of the run alone, where statements run -/
theorem MIn_fw (mi : MIn c g l t K K2 K3 K4 B KB σ) (e2 : σ'.2 = σ.2) (ej : ∀ j, ¬ ((1811 ≤ j ∧ j ≤ 1816) ∨ (1900 ≤ j ∧ j ≤ 1911)) → σ'.1 j = σ.1 j) (h1 : B ≤ uN (σ'.1 1902)) (h2 : uN (σ'.1 1902) ≤ uN (σ.1 1902)) (lf : uN (σ'.1 1903) + uN (σ'.1 1814) ≤ 10240000) : MIn c g l t K K2 K3 K4 B KB σ' ∧ Mw σ σ' := by
  have md : Mw σ σ' := ⟨fun j hj => ej j (by omega), fun _ _ => by rw [e2], fun _ _ => by rw [e2], ⟨fun _ _ => by show σ'.2.2.2.2.1 _ = _; rw [e2], by show _ ≤ σ'.2.2.2.2.1 20; rw [e2]; exact Nat.le_refl _⟩, by rw [e2], by rw [e2]⟩
  obtain ⟨st1, st2, st3⟩ := mi.2.1.1
  have n20 : sN σ' 20 = sN σ 20 := by show σ'.2.2.2.2.1 20 = _; rw [e2]
  have v := VI_w mi.2.1 md (by rw [e2]) ⟨fun _ z => z, fun p _ => by rw [e2]⟩ (K' := K) (by rw [n20]; omega) (by rw [n20]; exact st2) (by rw [e2]; exact fun j hj => st3 j (by omega))
  exact ⟨MIn_w mi md (HQ_fr mi.1 (ej 1 (by decide)) (by rw [e2]) (by rw [e2])) v mi.2.2.2.2.2.1 h1 lf, md⟩
theorem c_callProc {ws : Nat} {ms : List Nat} (hms : ∀ i, i ∈ ms → i < bsl) (p : Pre c g l t K K2 K3 K4 B KB f0 u0 σ fs u d (250000 :: (bsl + ws) :: ms) pb nf nc sq) {pc v : Nat} (cs : tcS c u) (hpc : σ.1 1900 = nI (pc + 1)) (hp : pc + 1 < 36865) (h1 : L.1 1 = nI v) (hv : 1 ≤ v ∧ v < 41) (kv : tcS c v) (k : d = tcP c v) (d2 : ws ≤ 200) (fb0 : tcF c u ≤ ws) (pf : tcP c v ≤ tcF c v ∧ tcF c v ≤ 1000) (nx : ∃ rb, tcD c (pc + 1) = some (u, 0 + 1 + tcP c v, ((bsl + ws) :: ms), rb) ∧ rb ≤ RK ∧ ∃ rk', tcD c (tcE c v) = some (v, 0, (bsl + tcF c v) :: Vl (tcF c v), rk') ∧ rk' + rb < rk) : Tm (fun k => f_X3_callProc k 0 L σ) (fun q => q.1.1 = 0 ∧ IO c B KB f0 u0 σ (mu σ (qv nf sq rk)) ((0, 0), q.2.1, (q.2.2.1 + 0, q.2.2.2 + 0))) := by
  have mi := p.1
  have ty := p.2.1
  obtain ⟨st1, st2, st3⟩ := mi.2.1.1
  have ts := TyS_sp ty
  have fb : tcF c u ≤ bt 0 ((bsl + ws) :: ms) := by rw [bt_0]; exact fb0
  have rf := SL_rf (v := 0) (by decide) (show SL K _ _ _ ((250000 + 0) :: (bsl + ws) :: ms) from ty.1)
  have fbB : B ≤ uN (σ.1 1902) - (4 + tcP c v) := by
    obtain ⟨pd, es⟩ := Pre_dp (x := nI (d + 4)) (d' := 0) (r' := (bsl + ws) :: ms) p (by
      rw [u_n (by omega)]
      exact ⟨fun K lo hi h => ⟨(SL_rf (v := 0) (by decide) (show SL K _ _ _ ((250000 + 0) :: (bsl + ws) :: ms) from h)).1, (SL_rf (v := 0) (by decide) (show SL K _ _ _ ((250000 + 0) :: (bsl + ws) :: ms) from h)).2.1⟩, fun K pb m h => h.2 (by unfold bsl; omega)⟩) fb
    have q := pd.1.2.2.2.2.2.2.1.2
    have q' : B ≤ uN (σ.1 1902 - nI (d + 4)) := q
    rw [es, u_n (by omega)] at q'
    omega
  obtain ⟨b, eb, _⟩ := mi.2.2.1
  have cr := (Ct_row mi.2.2.1 eb).2.2 v (by omega)
  have cs0 := FC_S _ _ _ _ _ _ _ ty.2.1 cs
  have en8 := ty.2.2.2.2.2.1 cs0
  have n50 := ty.2.2.2.2.2.2.1
  have e9 : uN (σ.1 1900) = pc + 1 := by rw [hpc, u_n (by omega)]
  have e1 : uN (L.1 1) = v := by rw [h1, u_n (by omega)]
  have i1 : ¬ (L.1 1 < 0 ∨ 42 ≤ (L.1 1).toNatClampNeg) := u_in (by omega) (by decide)
  have c1 : (L.1 1).toNatClampNeg = v := by rw [u_cl (by omega)]; exact e1
  have fail : ∀ a : Int32, ¬ a = 0 → Tm (fun k => Jvm.Pilot.CSetHouseLaw_law_r6264_2ea8b6.op (y_X3_fail k 0 (lI lZ 1 a) σ) (fun r2 => some ((0, 0), r2.2, (0, 0)))) (fun q => q.1.1 = 0 ∧ IO c B KB f0 u0 σ (mu σ (qv nf sq rk)) ((0, 0), q.2.1, (q.2.2.1 + 0, q.2.2.2 + 0))) := by
    intro a a0
    refine Tm_op c_fail (fun q e => ?_)
    rw [e]
    refine Tm_some ⟨rfl, ha_fin p rfl (fun j hj => ?_) rfl (f13 a0)⟩
    show upd (upd σ.1 1813 _) 1812 1 j = _
    rw [upd_other (by omega), upd_other (by omega)]
  refine Tm_suc (fun k => by rw [f_X3_callProc]) ?_
  refine Tm_ite (fun c50 => ?_) (fun _ => fail _ (by decide))
  have u50 : uN (50 : Int32) = 50 := rfl
  rw [u_ltn (by omega) (by decide), u50, en8] at c50
  have b4 : ∀ L' : LV, L'.1 1 = L.1 1 → Tm (fun k => f_X3_callProc k 4 L' σ) (fun q => q.1.1 = 0 ∧ IO c B KB f0 u0 σ (mu σ (qv nf sq rk)) ((0, 0), q.2.1, (q.2.2.1 + 0, q.2.2.2 + 0))) := by
    intro L' l1
    have slτ : uN (σ.1 1901) + 8 + tcP c v ≤ uN (σ.1 1902) ∧ ∀ p, uN (σ.1 1902) - tcP c v ≤ p → p < uN (σ.1 1902) → K p = none := by
      rw [← k]; exact ⟨by have := rf.2.2.2.1; omega, rf.2.2.1⟩
    refine Tm_suc (fun k => by rw [f_X3_callProc]) ?_
    refine Tm_oxc (c_enter (v := v) mi slτ (by omega) (by omega) pf (by show L'.1 1 = _; rw [l1]; exact h1)) (fun q z => by rw [z.1]) (fun q z => ?_)
    obtain ⟨z1, z2, z3, z4, z5, K', z6, z7⟩ := z
    generalize hH : uI (uI (uI q.2.1 1908 (q.2.1.1 1908 + 1)) 1909 ((uI q.2.1 1908 (q.2.1.1 1908 + 1)).1 1909 + L'.1 3)) 1910 (L'.1 3) = ρ
    have ρe : ∀ j, ¬ (j = 1908 ∨ j = 1909 ∨ j = 1910) → ρ.1 j = q.2.1.1 j := fun j hj => by
      rw [← hH]
      show upd (upd (upd q.2.1.1 1908 _) 1909 _) 1910 _ j = _
      rw [upd_other (by omega), upd_other (by omega), upd_other (by omega)]
    have ρ2 : ρ.2 = q.2.1.2 := by rw [← hH]; rfl
    have ρ8 : ρ.1 1908 = σ.1 1908 + 1 := by
      have e : ρ.1 1908 = q.2.1.1 1908 + 1 := by rw [← hH]; rfl
      rw [e, z4 1908 (by decide)]
    have mt := MIn_fw (σ' := ρ) z6 ρ2 (fun j hj => ρe j (by omega)) (by rw [ρe 1902 (by decide)]; exact z6.2.2.2.2.2.2.1.2) (by rw [ρe 1902 (by decide)]; exact Nat.le_refl _) (by rw [ρe 1903 (by decide), ρe 1814 (by decide)]; exact z6.2.2.2.2.2.2.2.1)
    refine Tm_suc (fun k => by rw [f_X3_callProc]) ?_
    refine Tm_some ⟨rfl, ?_⟩
    have ph := Ph_s (σ := q.2.1) (σ' := ρ) (by rw [ρ2])
    have z21 := z2.1
    have z22 := z2.2
    refine ⟨rfl, ⟨by show q.2.2.1 + 0 + 0 + PhC ρ ≤ _; omega, by show q.2.2.2 + 0 + 0 + PhS ρ ≤ _; omega⟩, Mw_M (Mw_t (Mw_d z3) mt.2), fun n => absurd cs0 n, g, l, t, K', K2, K3, K4, mt.1, fun h0 => ?_, fun h0 => ?_⟩
    rotate_left
    · rcases z7 with z7 | z7
      · exact Or.inl (by show ¬ ρ.1 1813 = 0; rw [ρe 1813 (by decide)]; exact z7.2)
      · exact absurd ((ρe 1812 (by decide)).trans (z7.1.trans p.2.2.2.1)) h0
    have h0' : ρ.1 1812 = 0 := h0
    rw [ρe 1812 (by decide)] at h0'
    rcases z7 with z7 | ⟨a1, a2, a3, a4, a5⟩
    · rw [z7.1] at h0'
      exact absurd h0' (by decide)
    generalize hF : uN (σ.1 1902) - tcP c v - 4 = f at *
    obtain ⟨rb, n1, n2, rk', r1, r2⟩ := nx
    have hd := Kh_i (K := K) (f := f) (a := rwN (uN (σ.1 1900) % 268435456)) (b := rwN (uN (σ.1 1901) % 268435456)) (e := rwN (uN (L'.1 1) % 268435456)) (h := rwN (uN (σ.1 1910) % 268435456))
    have sl0 : SL K (uN (σ.1 1901) + 4) f 0 ((bsl + ws) :: ms) := by
      have z := rf.2.1
      rw [show uN (σ.1 1902) - (d + 4) = f from by omega] at z
      exact z
    have sl0e := (SL_le _ _ _ sl0).2
    have e0 : uN (σ.1 1900) % 268435456 = pc + 1 := by omega
    have e01 : uN (σ.1 1901) % 268435456 = uN (σ.1 1901) := by omega
    have e03 : uN (L'.1 1) % 268435456 = v := by rw [l1]; omega
    have ty' : TyS c K' K4 f0 u0 ρ ((uN (σ.1 1901), u, 0, ((bsl + ws) :: ms), pb, nf, nc, sq) :: fs) v 0 ((bsl + tcF c v) :: Vl (tcF c v)) pb nf (nc + 1) (sq + rb) := by
      unfold TyS
      rw [ρe 1901 (by decide), ρe 1902 (by decide), ρe 1815 (by decide), ρe 1811 (by decide), a2, a3, z4 1815 (by decide), z4 1811 (by decide), ρ8]
      refine ⟨SL_mkV (by omega) (by omega) (fun p h1 h2 => a5 p h1 (by omega)), ⟨⟨pc + 1, rb, rwN v, rwN (uN (σ.1 1910) % 268435456), ⟨?_, ?_, ?_, ?_⟩, ⟨rwN_r (by omega), rwN_r (by omega), by omega⟩, ?_, fb, pf.1, ⟨n2, ty.2.2.2.2.2.2.2.1⟩, Or.inr ⟨kv, cs, hv, n1, ⟨rfl, ws, ms, d2, rfl, hms⟩, rfl, rfl, rfl, rfl, rfl⟩⟩, ?_⟩, by rw [bt_0]; exact Nat.le_refl _, ty.2.2.2.1, ty.2.2.2.2.1, fun _ => ?_, by omega, by omega, PaM_0 (Vl_b _ (by omega))⟩
      · rw [a4 f (by omega)]; exact hd.1.trans (by rw [e0])
      · rw [a4 (f + 1) (by omega)]
        exact hd.2.1.trans (by rw [e01])
      · rw [a4 (f + 2) (by omega)]; exact hd.2.2.1.trans (by rw [e03])
      · rw [a4 (f + 3) (by omega)]; exact hd.2.2.2
      · exact SL_eq _ _ _ (fun p h1 h2 => by rw [a4 p (by omega)]; exact Kh_o (Or.inl h2)) sl0
      · exact FC_k ty.2.1 (fun p hp => by rw [a4 p (by omega)]; exact Kh_o (Or.inl (by omega))) (fun _ _ => rfl)
      · rw [u_inc (by omega), en8]
    refine ⟨qv nf (sq + rb) rk', ⟨by rw [ρe 1905 (by decide), z4 1905 (by decide)]; exact p.2.2.1, v, 0, (bsl + tcF c v) :: Vl (tcF c v), rk', _, _, _, _, _, Or.inl ⟨ty', by rw [ρe 1900 (by decide), z5]; exact r1, rfl⟩⟩, ?_⟩
    unfold mu qv
    rw [ρe 1905 (by decide), z4 1905 (by decide), ρe 1814 (by decide), z4 1814 (by decide)]
    omega
  have b3 : ∀ L' : LV, L'.1 1 = L.1 1 → Tm (fun k => f_X3_callProc k 3 L' σ) (fun q => q.1.1 = 0 ∧ IO c B KB f0 u0 σ (mu σ (qv nf sq rk)) ((0, 0), q.2.1, (q.2.2.1 + 0, q.2.2.2 + 0))) := by
    intro L' l1
    refine Tm_suc (fun k => by rw [f_X3_callProc]) ?_
    exact Tm_ite (fun _ => b4 _ l1) (fun _ => fail _ (by decide))
  have b2 : ∀ (m : Nat) (L' : LV), m ≤ d → L'.1 1 = L.1 1 → uN (L'.1 4) + m = uN (σ.1 1902) → Tm (fun k => f_X3_callProc k 2 L' σ) (fun q => q.1.1 = 0 ∧ IO c B KB f0 u0 σ (mu σ (qv nf sq rk)) ((0, 0), q.2.1, (q.2.2.1 + 0, q.2.2.2 + 0))) := by
    intro m
    induction m with
    | zero =>
      intro L' md l1 l4
      refine Tm_suc (fun k => by rw [f_X3_callProc]) ?_
      exact Tm_yes (by rw [u_le (by omega) (by omega)]; omega) (b3 _ l1)
    | succ m ih =>
      intro L' md l1 l4
      refine Tm_suc (fun k => by rw [f_X3_callProc]) ?_
      refine Tm_no (by rw [u_le (by omega) (by omega)]; omega) ?_
      refine Tm_chk (u_in (by omega) (by omega)) ?_
      refine Tm_op (c_size1 mi.1 (by show Gv g (σ.2.2.1 20 (L'.1 4).toNatClampNeg); rw [u_cl (by omega)]; exact (Ty_v p (by omega) (by omega)))) (fun q z => ?_)
      have e : q.2 = σ := z.1
      rw [e]
      refine ih _ (by omega) l1 ?_
      show uN (L'.1 4 + 1) + m = _
      rw [u_inc (by omega)]; omega
  refine Tm_suc (fun k => by rw [f_X3_callProc]) ?_
  refine Tm_oP eb ?_
  refine Tm_chk i1 ?_
  refine Tm_oP eb ?_
  refine Tm_chk i1 ?_
  refine b2 (tcP c v) _ (by omega) rfl ?_
  show uN (σ.1 1902 - σ.2.2.1 (pR14 b) (L.1 1).toNatClampNeg) + _ = _
  rw [c1, u_sub (by omega), cr.2.1]
  omega
theorem c_endProc (p : Pre c g l t K K2 K3 K4 B KB f0 u0 σ fs u d r pb nf nc sq) (hd : 1 ≤ d) (cs : tcS c u) (hu : ¬ u = u0) (hr : 1 ≤ rk) (vp : ∀ i, i < tcP c u → i < 500000 ∧ HasM (500000 + i) r) : Tm (fun k => y_X3_endProc k 0 L σ) (fun q => IO c B KB f0 u0 σ (mu σ (qv nf sq rk)) ((0, 0), q.2, (0, 0))) := by
  have mi := p.1
  have ty := p.2.1
  obtain ⟨st1, st2, st3⟩ := mi.2.1.1
  have ts := TyS_sp ty
  have cs0 := FC_S _ _ _ _ _ _ _ ty.2.1 cs
  have gpv : ∀ i, i < tcP c u → Gv g (σ.2.2.1 20 (uN (σ.1 1901) + 4 + i)) := fun i hi => by
    have hv := SL_hv (vp i hi).1 _ _ _ ty.1 (vp i hi).2
    exact Rwk_v st3 (by omega) hv.2
  obtain ⟨t1, t2, t3, t4, t5, t6, t7⟩ := ty
  cases fs with
  | nil => exact absurd t2.2.1 hu
  | cons w fs =>
    obtain ⟨⟨bk, rb, z2, z3, ⟨a0, a1, a2, a3⟩, ⟨b1, b2, b3⟩, s, f1, f2, f3, kk⟩, wt⟩ := t2
    have kp : tcS c w.2.1 ∧ (1 ≤ u ∧ u < 41) ∧ tcD c bk = some (w.2.1, w.2.2.1 + 1 + tcP c u, w.2.2.2.1, rb) ∧ (w.2.2.1 = 0 ∧ ∃ (w5 : Nat) (ms : List Nat), w5 ≤ 200 ∧ w.2.2.2.1 = (bsl + w5) :: ms ∧ ∀ i, i ∈ ms → i < bsl) ∧ z2 = rwN u ∧ pb = w.2.2.2.2.1 ∧ nf = w.2.2.2.2.2.1 ∧ nc = w.2.2.2.2.2.2.1 + 1 ∧ sq = w.2.2.2.2.2.2.2 + rb := by
      rcases kk with z | z
      · exact absurd z.1 cs.1
      · exact z.2
    obtain ⟨k1, k2, k3, k4, k5, k6, k7, k8, k9⟩ := kp
    have sle := SL_le _ _ _ s
    have v0 := pin_v st3 (by omega) a0 (rwN_r b3)
    have v1 := pin_v st3 (by omega) a1 (rwN_r (by omega))
    have v2 := pin_v st3 (by omega) a2 b1
    have v3 := pin_v st3 (by omega) a3 b2
    have e8 := t6 cs0
    generalize hfp : uN (σ.1 1901) = fp at *
    have u1 : uN (1 : Int32) = 1 := rfl
    have u2 : uN (2 : Int32) = 2 := rfl
    have u3 : uN (3 : Int32) = 3 := rfl
    have u4 : uN (4 : Int32) = 4 := rfl
    have gh := (Ty_v p (q := (uN (σ.1 1902) - 1)) (by omega) (by omega))
    have n20 : sN σ 20 ≤ 2147483648 := by omega
    obtain ⟨b, eb, _⟩ := mi.2.2.1
    have cr := (Ct_row mi.2.2.1 eb).2.2 u (by omega)
    have bB : B ≤ fp := by
      rcases p.2.2.2.2 with z | z
      · have y := (FC_f0 _ _ _ _ _ _ _ wt).1
        omega
      · rcases FC_B _ _ _ _ _ _ _ wt with e | e
        · rw [e.1] at sle
          rw [e.2] at f1
          omega
        · omega
    -- the end
    have b5 : ∀ (τ : CS) (f : Nat → Int32) (L' : LV), τ.2 = σ.2 → (∀ j, ¬ (j = 1900 ∨ j = 1901 ∨ j = 1902 ∨ j = 1908 ∨ j = 1909 ∨ j = 1910) → τ.1 j = σ.1 j) → uN (τ.1 1900) = bk → uN (τ.1 1901) = w.1 → uN (τ.1 1908) = w.2.2.2.2.2.2.1 → uN (L'.1 2) = fp → uN (L'.1 3) = tcP c u → (∀ j, j < fp → f j = σ.2.2.1 20 j) → (∀ j, fp ≤ j → j < fp + 1 + tcP c u → Gv g (f j)) → Tm (fun k => y_X3_endProc k 5 L' (uF τ 20 f)) (fun q => IO c B KB f0 u0 σ (mu σ (qv nf sq rk)) ((0, 0), q.2, (0, 0))) := by
      intro τ f L' τ2 τe e0 e1 e08 l2 l3 g1 g2'
      have esp : uN (L'.1 2 + 1 + L'.1 3) = fp + 1 + tcP c u := by rw [u_add (by rw [u_inc (by omega)]; omega), u_inc (by omega), l2, l3]
      refine Tm_suc (fun k => by rw [y_X3_endProc]) ?_
      generalize hH : uI (uF τ 20 f) 1902 (L'.1 2 + 1 + L'.1 3) = ρ
      have ρe : ∀ j, ¬ j = 1902 → ρ.1 j = τ.1 j := fun j hj => by rw [← hH]; exact upd_other hj
      have ρsp : uN (ρ.1 1902) = fp + 1 + tcP c u := by rw [← hH]; exact esp
      have ρz : ρ.2.1 = σ.2.1 ∧ ρ.2.2.2 = σ.2.2.2 := by rw [← hH]; exact ⟨by show τ.2.1 = _; rw [τ2], by show τ.2.2.2 = _; rw [τ2]⟩
      have ρk : ∀ k, ¬ k = 20 → ρ.2.2.1 k = σ.2.2.1 k := fun k hk => by
        rw [← hH]
        show updG τ.2.2.1 20 f k = _
        rw [updG_other hk, τ2]
      have ρf : ρ.2.2.1 20 = f := by rw [← hH]; rfl
      have mw : Mw σ ρ := ⟨fun j hj => (ρe j (by omega)).trans (τe j (by omega)), fun j _ => by rw [ρz.1], fun k hk => ρk k (by omega), ⟨fun k _ => by show ρ.2.2.2.2.1 k = _; rw [ρz.2], by show _ ≤ ρ.2.2.2.2.1 20; rw [ρz.2]; exact Nat.le_refl _⟩, by rw [ρz.2], by rw [ρz.2]⟩
      have n20' : sN ρ 20 = sN σ 20 := by show ρ.2.2.2.2.1 20 = _; rw [ρz.2]
      have rw1 : Rwk g (ρ.2.2.1 3) (Kw K fp (1 + tcP c u) none) (ρ.2.2.1 20) (uN (ρ.1 1902)) := by
        rw [ρsp, ρf, ρk 3 (by decide)]
        intro j hj
        rcases Nat.lt_or_ge j fp with y | y
        · rw [g1 j y, Kw_o (Or.inl y)]; exact st3 j (by omega)
        · rw [Kw_i y (by omega)]
          exact Rwn (g2' j y hj)
      have vi := VI_w mi.2.1 mw (ρk 23 (by decide)) ⟨fun _ z => z, fun p _ => by rw [ρk 3 (by decide)]⟩ (by rw [ρsp, n20']; omega) (by rw [n20']; exact st2) rw1
      have hq : HQ g l t ρ := HQ_fr mi.1 ((ρe 1 (by decide)).trans (τe 1 (by decide))) (ρk 3 (by decide)) (by rw [ρz.2])
      refine Tm_some ?_
      refine IO_w mi cs0 rfl (CoP_0 (by rw [ρz.2])) mw hq vi (fun j hj => by rw [Kw_o (Or.inl (by omega))]; exact mi.2.2.2.2.2.1 j hj) (by show B ≤ uN (ρ.1 1902); rw [ρsp]; omega) (by show uN (ρ.1 1903) + uN (ρ.1 1814) ≤ _; rw [ρe 1903 (by decide), τe 1903 (by decide), ρe 1814 (by decide), τe 1814 (by decide)]; exact mi.2.2.2.2.2.2.2.1) (fun _ => ?_) (fun z => absurd ((ρe 1812 (by decide)).trans ((τe 1812 (by decide)).trans p.2.2.2.1)) z)
      have ty' : TyS c (Kw K fp (1 + tcP c u) none) K4 f0 u0 ρ fs w.2.1 (w.2.2.1 + 1 + tcP c u) w.2.2.2.1 pb nf w.2.2.2.2.2.2.1 w.2.2.2.2.2.2.2 := by
        unfold TyS
        rw [ρsp, ρe 1901 (by decide), e1, ρe 1815 (by decide), τe 1815 (by decide), ρe 1811 (by decide), τe 1811 (by decide), ρe 1908 (by decide), e08]
        refine ⟨?_, ?_, ?_, t4, t5, fun _ => rfl, by omega, f3.2, ?_⟩
        · have z := SL_pu (1 + tcP c u) s
          rw [show fp + (1 + tcP c u) = fp + 1 + tcP c u from by omega, show w.2.2.1 + (1 + tcP c u) = w.2.2.1 + 1 + tcP c u from by omega] at z
          exact z
        · rw [k6, k7]
          exact FC_k wt (fun p hp => Kw_o (Or.inl (by omega))) (fun _ _ => rfl)
        · rw [show w.2.2.1 + 1 + tcP c u = w.2.2.1 + (1 + tcP c u) from by omega]
          exact Nat.le_trans f1 (bt_m _ _ _)
        · obtain ⟨_, w5, ms, _, e5, h5⟩ := k4
          rw [e5]
          exact PaM_0 h5
      refine ⟨qv nf w.2.2.2.2.2.2.2 rb, ⟨by rw [ρe 1905 (by decide), τe 1905 (by decide)]; exact p.2.2.1, _, _, _, rb, _, _, _, _, _, Or.inl ⟨ty', by rw [ρe 1900 (by decide), e0]; exact k3, rfl⟩⟩, ?_⟩
      show mu ρ _ < _
      unfold mu qv
      rw [ρe 1905 (by decide), τe 1905 (by decide), ρe 1814 (by decide), τe 1814 (by decide)]
      omega
    have b4 : ∀ (τ : CS), τ.2 = σ.2 → (∀ j, ¬ (j = 1900 ∨ j = 1901 ∨ j = 1902 ∨ j = 1908 ∨ j = 1909 ∨ j = 1910) → τ.1 j = σ.1 j) → uN (τ.1 1900) = bk → uN (τ.1 1901) = w.1 → uN (τ.1 1908) = w.2.2.2.2.2.2.1 → ∀ (m : Nat) (L' : LV) (f : Nat → Int32), uN (L'.1 2) = fp → uN (L'.1 3) = tcP c u → uN (L'.1 4) + m = tcP c u + 1 → 1 ≤ uN (L'.1 4) → (∀ j, j < fp ∨ fp + uN (L'.1 4) ≤ j → f j = σ.2.2.1 20 j) → (∀ j, fp ≤ j → j < fp + uN (L'.1 4) → Gv g (f j)) → Tm (fun k => y_X3_endProc k 4 L' (uF τ 20 f)) (fun q => IO c B KB f0 u0 σ (mu σ (qv nf sq rk)) ((0, 0), q.2, (0, 0))) := by
      intro τ τ2 τe e0 e1 e08 m
      have es : sN τ 20 = sN σ 20 := by show τ.2.2.2.2.1 20 = _; rw [τ2]
      induction m with
      | zero =>
        intro L' f l2 l3 l4 l4' g1 g2'
        refine Tm_suc (fun k => by rw [y_X3_endProc]) ?_
        refine Tm_yes (by rw [u_ltn (by omega) (by omega)]; omega) ?_
        exact b5 τ f L' τ2 τe e0 e1 e08 l2 l3 (fun j hj => g1 j (Or.inl hj)) (fun j h1 h2 => g2' j h1 (by omega))
      | succ m ih =>
        intro L' f l2 l3 l4 l4' g1 g2'
        have ea : uN (L'.1 2 + 4 - 1 + L'.1 4) = fp + 3 + uN (L'.1 4) := by
          have e5 : uN (L'.1 2 + 4 - 1) = fp + 3 := by rw [u_sub (by rw [u_add (by omega)]; omega), u_add (by omega), l2, u4, u1]; omega
          rw [u_add (by omega), e5]
        have eb' : uN (L'.1 2 + L'.1 4) = fp + uN (L'.1 4) := by rw [u_add (by omega), l2]
        refine Tm_suc (fun k => by rw [y_X3_endProc]) ?_
        refine Tm_no (by rw [u_ltn (by omega) (by omega)]; omega) ?_
        refine Tm_chk (u_in (x := L'.1 2 + 4 - 1 + L'.1 4) (by show _ < sN τ 20; rw [es]; omega) (by show sN τ 20 ≤ _; rw [es]; exact n20)) ?_
        refine Tm_chk (u_in (x := L'.1 2 + L'.1 4) (by show _ < sN τ 20; rw [es]; omega) (by show sN τ 20 ≤ _; rw [es]; exact n20)) ?_
        rw [uF_a]
        refine ih _ _ l2 l3 ?_ ?_ ?_ ?_
        · show uN (L'.1 4 + 1) + m = _
          rw [u_inc (by omega)]; omega
        · show 1 ≤ uN (L'.1 4 + 1)
          rw [u_inc (by omega)]; omega
        · show ∀ j, j < fp ∨ fp + uN (L'.1 4 + 1) ≤ j → upd f (L'.1 2 + L'.1 4).toNatClampNeg _ j = _
          rw [u_inc (by omega), u_cl (by omega), eb']
          intro j hj
          rw [upd_other (by omega)]
          exact g1 j (by omega)
        · show ∀ j, fp ≤ j → j < fp + uN (L'.1 4 + 1) → Gv g (upd f (L'.1 2 + L'.1 4).toNatClampNeg (f (L'.1 2 + 4 - 1 + L'.1 4).toNatClampNeg) j)
          rw [u_inc (by omega), u_cl (x := L'.1 2 + L'.1 4) (by omega), eb', u_cl (by omega), ea]
          intro j h1 h2
          by_cases y : j = fp + uN (L'.1 4)
          · rw [y, upd_same, g1 _ (by omega)]
            have z := gpv (uN (L'.1 4) - 1) (by omega)
            rw [show fp + 4 + (uN (L'.1 4) - 1) = fp + 3 + uN (L'.1 4) by omega] at z
            exact z
          · rw [upd_other y]
            exact g2' j h1 (by omega)
    have b3' : ∀ (τ : CS) (L' : LV), τ.2 = σ.2 → (∀ j, ¬ (j = 1900 ∨ j = 1901 ∨ j = 1902 ∨ j = 1908 ∨ j = 1909 ∨ j = 1910) → τ.1 j = σ.1 j) → uN (τ.1 1900) = bk → uN (τ.1 1901) = w.1 → uN (τ.1 1908) = w.2.2.2.2.2.2.1 → uN (L'.1 2) = fp → uN (L'.1 3) = tcP c u → Gv g (L'.1 1) → Tm (fun k => y_X3_endProc k 3 L' τ) (fun q => IO c B KB f0 u0 σ (mu σ (qv nf sq rk)) ((0, 0), q.2, (0, 0))) := by
      intro τ L' τ2 τe e0 e1 e08 l2 l3 gx
      have es : sN τ 20 = sN σ 20 := by show τ.2.2.2.2.1 20 = _; rw [τ2]
      refine Tm_suc (fun k => by rw [y_X3_endProc]) ?_
      refine Tm_chk (u_in (x := L'.1 2) (by rw [es]; omega) (by rw [es]; exact n20)) ?_
      refine b4 τ τ2 τe e0 e1 e08 (tcP c u) (lI L' 4 1) (upd (τ.2.2.1 20) (L'.1 2).toNatClampNeg (L'.1 1)) l2 l3 ?_ ?_ ?_ ?_
      · show 1 + _ = _
        omega
      · show 1 ≤ 1
        exact Nat.le_refl _
      · show ∀ j, j < fp ∨ fp + 1 ≤ j → _
        rw [u_cl (by omega), l2, τ2]
        intro j hj
        rw [upd_other (by omega)]
      · show ∀ j, fp ≤ j → j < fp + 1 → _
        rw [u_cl (by omega), l2]
        intro j h1 h2
        rw [show j = fp from by omega, upd_same]
        exact gx
    have b2' : ∀ (τ : CS) (L' : LV), τ.2 = σ.2 → (∀ j, ¬ (j = 1900 ∨ j = 1901 ∨ j = 1902 ∨ j = 1908 ∨ j = 1909 ∨ j = 1910) → τ.1 j = σ.1 j) → uN (τ.1 1900) = bk → uN (τ.1 1901) = w.1 → uN (τ.1 1908) = w.2.2.2.2.2.2.1 → uN (L'.1 2) = fp → uN (L'.1 3) = tcP c u → Gv g (L'.1 1) → Tm (fun k => y_X3_endProc k 2 L' τ) (fun q => IO c B KB f0 u0 σ (mu σ (qv nf sq rk)) ((0, 0), q.2, (0, 0))) := by
      intro τ L' τ2 τe e0 e1 e08 l2 l3 gx
      have ei : uN (L'.1 2 + 3) = fp + 3 := by rw [u_add (by omega), l2, u3]
      have es : sN τ 20 = sN σ 20 := by show τ.2.2.2.2.1 20 = _; rw [τ2]
      refine Tm_suc (fun k => by rw [y_X3_endProc]) ?_
      refine Tm_chk (u_in (x := L'.1 2 + 3) (by show _ < sN τ 20; rw [es]; omega) (by show sN τ 20 ≤ _; rw [es]; exact n20)) ?_
      refine Tm_oc c_unraw (fun q e => ?_)
      rw [e]
      refine b3' _ _ τ2 (fun j hj => ?_) e0 e1 e08 l2 l3 gx
      show upd (upd τ.1 1909 _) 1910 _ j = _
      rw [upd_other (by omega), upd_other (by omega)]
      exact τe j (by omega)
    have b1' : ∀ (τ : CS) (L' : LV), τ.2 = σ.2 → (∀ j, ¬ (j = 1900 ∨ j = 1902) → τ.1 j = σ.1 j) → uN (τ.1 1900) = bk → uN (L'.1 2) = fp → uN (L'.1 3) = tcP c u → Gv g (L'.1 1) → Tm (fun k => y_X3_endProc k 1 L' τ) (fun q => IO c B KB f0 u0 σ (mu σ (qv nf sq rk)) ((0, 0), q.2, (0, 0))) := by
      intro τ L' τ2 τe e0 l2 l3 gx
      have ei : uN (L'.1 2 + 1) = fp + 1 := by rw [u_inc (by omega), l2]
      have es : sN τ 20 = sN σ 20 := by show τ.2.2.2.2.1 20 = _; rw [τ2]
      refine Tm_suc (fun k => by rw [y_X3_endProc]) ?_
      refine Tm_chk (u_in (x := L'.1 2 + 1) (by rw [es]; omega) (by rw [es]; exact n20)) ?_
      refine Tm_oc c_unraw (fun q e => ?_)
      rw [e]
      refine b2' _ _ τ2 (fun j hj => ?_) e0 ?_ ?_ l2 l3 gx
      · show upd (upd τ.1 1901 _) 1908 _ j = _
        rw [upd_other (by omega), upd_other (by omega)]
        exact τe j (by omega)
      · show uN (nI (uN (τ.2.2.1 20 (L'.1 2 + 1).toNatClampNeg) % 268435456)) = _
        rw [u_cl (by omega), ei, τ2, v1, u_n (by omega), unr (by omega)]
      · show uN (τ.1 1908 - 1) = _
        rw [τe 1908 (by decide), u_sub (by omega), u1, e8]; omega
    have ei : uN (σ.1 1901 + 2) = fp + 2 := by rw [u_add (by omega), hfp, u2]
    refine Tm_suc (fun k => by rw [y_X3_endProc]) ?_
    refine Tm_oc (c_pop (by omega) st1 st2.2) (fun q e => ?_)
    rw [e.1]
    refine Tm_oB eb ?_
    refine Tm_chk (u_in (x := σ.1 1901 + 2) (by show _ < sN σ 20; omega) (by show sN σ 20 ≤ _; exact n20)) ?_
    refine Tm_oc c_unraw (fun q2 e2 => ?_)
    rw [e2]
    have e4 : nI (uN (σ.2.2.1 20 (σ.1 1901 + 2).toNatClampNeg) % 268435456) = nI u := by
      rw [u_cl (by omega), ei, v2, k5, unr (by omega)]
    have e4' : uN (nI (uN (σ.2.2.1 20 (σ.1 1901 + 2).toNatClampNeg) % 268435456)) = u := by rw [e4, u_n (by omega)]
    refine Tm_chk (u_in (x := nI (uN (σ.2.2.1 20 (σ.1 1901 + 2).toNatClampNeg) % 268435456)) (by omega) (by decide)) ?_
    refine Tm_chk (u_in (x := σ.1 1901) (by show _ < sN σ 20; omega) (by show sN σ 20 ≤ _; exact n20)) ?_
    refine Tm_oc c_unraw (fun q3 e3 => ?_)
    rw [e3]
    refine b1' _ _ rfl (fun j hj => ?_) ?_ hfp ?_ gh
    · show upd (upd σ.1 1902 _) 1900 _ j = _
      rw [upd_other (by omega), upd_other (by omega)]
    · show uN (nI (uN (σ.2.2.1 20 (σ.1 1901).toNatClampNeg) % 268435456)) = _
      rw [u_cl (by omega), hfp, v0, u_n (by omega), unr (by omega)]
    · show uN (σ.2.2.1 (pR14 b) (nI (uN (σ.2.2.1 20 (σ.1 1901 + 2).toNatClampNeg) % 268435456)).toNatClampNeg) = _
      rw [u_cl (x := nI (uN (σ.2.2.1 20 (σ.1 1901 + 2).toNatClampNeg) % 268435456)) (by omega), e4']
      exact cr.2.1
end CSY
end JnS387
