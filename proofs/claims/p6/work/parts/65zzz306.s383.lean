/-! The class: instructions that put values upon the stack. -/
section CSU
variable {g g' g2 : Nat → Prop} {l l' l2 : List Nat} {t t' t2 : Nat} {σ σ' σ2 : CS} {L : LV} {x y i : Int32} {M M' U U' : Nat → Int32} {K K' K2 K3 K4 KB : Nat → Option Int32} {c : Ct} {B f0 u0 : Nat} {fs : List FrT} {u d : Nat} {r : List Nat} {pb nf nc sq rk : Nat}
/-- a literal that holds in every heap -/
def LitG (w : Int32) : Prop := (2147483648 ≤ uN w ∧ uN w < 3489660928) ∨ uN w < 3
theorem Lit_g (h : HQ g l t σ) (w : LitG x) : Gv g x := by
  rcases w with z | z
  · exact Or.inl ⟨z.1, Or.inl z.2⟩
  · refine Or.inr ⟨by omega, ?_⟩
    rcases (show uN x = 0 ∨ uN x = 1 ∨ uN x = 2 by omega) with e | e | e <;> rw [e]
    · exact h.2.2.2.1.1
    · exact h.2.2.2.1.2.1
    · exact h.2.2.2.1.2.2
/-- a literal's cell -/
def LitC (C : Nat → Int32) (s n : Nat) : Prop := uN (C s) < 2147483648 ∧ n = 1 + hdW (uN (C s)) ∧ (hdK (uN (C s)) = 2 ∨ hdK (uN (C s)) = 4) ∧ (hdT (uN (C s)) ≤ 30 ∧ 1 ≤ hdS (uN (C s))) ∧ (hdK (uN (C s)) = 2 → 1 ≤ hdL (uN (C s)) ∧ hdL (uN (C s)) ≤ 32)
theorem c_makeCopy (h : HQ g l t σ) {C : Nat → Int32} (hC : σ.2.2.1 (pR0 (L.2.2.1 1)) = C) (hN : sN σ (pR0 (L.2.2.1 1)) ≤ 1000000) (hs : uN (L.1 2) + uN (L.1 3) ≤ sN σ (pR0 (L.2.2.1 1))) (lc : LitC C (uN (L.1 2)) (uN (L.1 3))) : Tm (fun k => y_X1_makeCopy__A0 k 0 L σ) (Va g t σ) := by
  have nn := HQ_n h
  have tt := h.2.1
  have et : uN (σ.1 1) = t := by rw [h.1, u_n (by omega)]
  have es : uN (Int32.ofNat (sN σ 3) - σ.1 1) = sN σ 3 - t := by
    have e1 : uN (Int32.ofNat (sN σ 3)) = sN σ 3 := u_n (by omega)
    rw [u_sub (by omega), e1, et]
  obtain ⟨l1, l2, l3, l4, l5⟩ := lc
  refine Tm_suc (fun k => by rw [y_X1_makeCopy__A0]) ?_
  refine Tm_ite (fun c0 => ?_) (fun c0 => Tm_some (Va_e h (AXf_r σ) (by show 4026531840 ≤ uN (-268435450) ∧ ¬ uN (-268435450) % 16 = 0; decide)))
  rw [u_le (by omega) (by omega), es] at c0
  have ea : uN (σ.1 1 + L.1 3) = t + uN (L.1 3) := by rw [u_add (by omega), et]
  refine Tm_suc (fun k => by rw [y_X1_makeCopy__A0]) ?_
  refine Tm_chk ⟨?_, ?_, ?_, ?_, ?_⟩ ?_
  · show ¬ L.1 2 < 0
    rw [u_neg]; omega
  · show ¬ σ.1 1 < 0
    rw [u_neg]; omega
  · show ¬ L.1 3 < 0
    rw [u_neg]; omega
  · show (L.1 2).toNatClampNeg + (L.1 3).toNatClampNeg ≤ sN σ (pR0 (L.2.2.1 1))
    rw [u_cl (by omega), u_cl (by omega)]; exact hs
  · show (σ.1 1).toNatClampNeg + (L.1 3).toNatClampNeg ≤ sN σ 3
    rw [u_cl (by omega), u_cl (by omega)]; omega
  have e4 : (lI L 4 (σ.1 1)).1 4 = σ.1 1 := rfl
  have hv : σ.1 1 + L.1 3 = nI (t + 1 + hdW (uN (C (uN (L.1 2))))) := by
    rw [u_of (σ.1 1 + L.1 3), ea]; congr 1; omega
  have e0 : va_cpy C (σ.2.2.1 3) (uN (L.1 2)) t (uN (L.1 3)) t = C (uN (L.1 2)) := by
    unfold va_cpy
    rw [if_pos (by omega), Nat.sub_self, Nat.add_zero]
  have hm : ∀ p, p < t → va_cpy C (σ.2.2.1 3) (uN (L.1 2)) t (uN (L.1 3)) p = σ.2.2.1 3 p := by
    intro p hp
    unfold va_cpy
    rw [if_neg (by omega)]
  have hn := HQ_new (M' := va_cpy C (σ.2.2.1 3) (uN (L.1 2)) t (uN (L.1 3))) h hm (by rw [e0]; omega) (by
    unfold CGo
    rw [e0]
    exact ⟨l1, by omega, by omega, l4, l5, fun k => absurd k (by omega), fun k => absurd k (by omega)⟩)
  rw [e0] at hn
  have eS : uF (uI σ 1 (σ.1 1 + L.1 3)) 3 (va_cpy ((uI σ 1 (σ.1 1 + L.1 3)).2.2.1 (pR0 (L.2.2.1 1))) ((uI σ 1 (σ.1 1 + L.1 3)).2.2.1 3) (L.1 2).toNatClampNeg (σ.1 1).toNatClampNeg (L.1 3).toNatClampNeg) = hpC σ (t + 1 + hdW (uN (C (uN (L.1 2))))) (va_cpy C (σ.2.2.1 3) (uN (L.1 2)) t (uN (L.1 3))) := by
    rw [← hpC_u σ hv]
    rw [u_cl (x := L.1 2) (by omega), u_cl (x := σ.1 1) (by omega), u_cl (x := L.1 3) (by omega), et]
    show uF _ 3 (va_cpy (σ.2.2.1 (pR0 (L.2.2.1 1))) (σ.2.2.1 3) _ _ _) = _
    rw [hC]
  refine Tm_some ?_
  show Va g t σ (σ.1 1, uF (uI σ 1 (σ.1 1 + L.1 3)) 3 (va_cpy ((uI σ 1 (σ.1 1 + L.1 3)).2.2.1 (pR0 (L.2.2.1 1))) ((uI σ 1 (σ.1 1 + L.1 3)).2.2.1 3) (L.1 2).toNatClampNeg (σ.1 1).toNatClampNeg (L.1 3).toNatClampNeg))
  rw [eS]
  refine Va_M (kd := hdK (uN (C (uN (L.1 2))))) h (AXf_r σ) ⟨_, _, _, _, rfl, hn, fun p hp => Or.inl hp, hm, by omega, Or.inl ⟨Or.inr ⟨by show uN (σ.1 1) < _; omega, Or.inr et⟩, ?_⟩⟩
  show kdC _ (σ.1 1) = _
  unfold kdC
  rw [if_pos (by omega), et, e0]
theorem Tm_oP {o : Option Bool} {b : Bool} {f : Nat → Bool → Option RS} {Q : RS → Prop} (e : o = some b) (h : Tm (fun k => f k b) Q) : Tm (fun k => oP o (f k)) Q := by
  rw [e]; exact h
/-- the code is where it should be -/
theorem Ct_row {b : Bool} (h : CtL c σ) (e : sPr σ = some b) : σ.2.2.1 (pR0 (sKd σ b)) = tcC c ∧ sN σ (pR0 (sKd σ b)) = tcN c ∧ ∀ u, u < 42 → uN (σ.2.2.1 (pR13 b) u) = tcE c u ∧ uN (σ.2.2.1 (pR14 b) u) = tcP c u ∧ uN (σ.2.2.1 (pR18 b) u) = tcF c u := by
  obtain ⟨b', h1, h2, h3, h4⟩ := h
  rw [e] at h1
  have eb : b = b' := Option.some.inj h1
  subst eb
  exact ⟨h2, h3, h4⟩
def Ok2 (c : Ct) (pc u d : Nat) (r : List Nat) (rk op : Nat) (num : Int32) : Prop := (op = 32 → pc + 1 < tcN c ∧ LitG (tcC c (pc + 1)) ∧ Nx c (pc + 2) u (d + 1) r rk) ∧ (op = 33 → pc + 1 < tcN c ∧ LitG (tcC c (pc + 1)) ∧ NxS c (pc + 2) u (d + 1) r) ∧ (op = 34 → pc + 1 + uN num ≤ tcN c ∧ LitC (tcC c) (pc + 1) (uN num) ∧ NxS c (pc + 1 + uN num) u (d + 1) r) ∧ (op = 35 → (uN num < 500000 ∧ HasM (500000 + uN num) r) ∧ Nx c (pc + 1) u (d + 1) r rk) ∧ (op = 36 → uN num < tcF c 0 ∧ Nx c (pc + 1) u (d + 1) r rk) ∧ (op = 37 → ∃ d' r', Drp (uN num) d r d' r' ∧ Nx c (pc + 1) u d' r' rk) ∧ (op = 38 → uN num < d ∧ Nx c (pc + 1) u (d + 1) r rk) ∧ (op = 39 → 2 ≤ d ∧ Nx c (pc + 1) u d r rk) ∧ (op = 41 → (uN num < 180 ∧ HasM (bsl + 500000 + uN num) r) ∧ Nx c (pc + 1) u (d + 1) r rk) ∧ (op = 42 → uN num ≤ 1000 ∧ Nx c (pc + 1) u (d + uN num) r rk) ∧ (op = 40 ∨ 43 ≤ op → 1 ≤ d ∧ NxS c (pc + 1) u d r)
theorem Tm_e {α : Type} {f : Nat → Option α} {Q Q' : α → Prop} (h : Tm f Q) (i : ∀ r, Q r → Q' r) : Tm f Q' := Tm_mono h i
theorem op_n {op n : Nat} (ho : op < 256) (hn : n < 256) : (nI op = nI n) ↔ op = n := by
  rw [u_eq, u_n (by omega), u_n (by omega)]
theorem upd_id (f : Nat → Int32) (i : Nat) : upd f i (f i) = f := by
  funext j
  by_cases z : j = i
  · rw [z, upd_same]
  · rw [upd_other z]
/-- work alone, as if the top were given anew -/
theorem Re_sp {n : Int32} (h1 : 1 ≤ uN n) (h2 : uN n < 1024) (w : uN (σ.1 1905) ≤ 60000) : ReO σ (σ.2.2.1 20 (uN (σ.1 1902) - 1)) (spS σ n) := by
  have s := spS_s σ n
  refine ⟨spS_m σ n, ⟨s.2.1, by rw [s.1], by rw [s.1]⟩, s.2.2, Or.inr ⟨?_, ⟨trivial, spS_13 σ n⟩, spS_w h1 h2 w⟩⟩
  rw [s.1, upd_id]
theorem c_data (p : Pre c g l t K K2 K3 K4 B KB f0 u0 σ fs u d r pb nf nc sq) {pc op : Nat} (ho : op < 256) (h32 : 32 ≤ op) (h1 : L.1 1 = nI op) (h3 : L.1 3 = nI pc) (hp : pc + 1 ≤ tcN c) (hN : tcN c ≤ 36864) (hpc : σ.1 1900 = nI (pc + 1)) (ok : Ok2 c pc u d r rk op (L.1 2)) : Tm (fun k => f_X3_data k 0 L σ) (IO c B KB f0 u0 σ (mu σ (qv nf sq rk))) := by
  have mi := p.1
  have ty := p.2.1
  have w := p.2.2.1
  obtain ⟨st1, st2, st3⟩ := mi.2.1.1
  have ts := TyS_sp ty
  have tb := TyS_B ty
  have b12 : ∀ (σ' : CS) (L' : LV) (Q : RS → Prop), Q ((0, 0), σ', (0, 0)) → Tm (fun k => f_X3_data k 12 L' σ') Q := by
    intro σ' L' Q h
    refine Tm_suc (fun k => by rw [f_X3_data]) ?_
    exact Tm_some h
  have e3 : uN (L.1 3) = pc := by rw [h3, u_n (by omega)]
  have e31 : uN (L.1 3 + 1) = pc + 1 := by rw [u_inc (by omega), e3]
  have u2 : uN (2 : Int32) = 2 := rfl
  have u4 : uN (4 : Int32) = 4 := rfl
  have u1 : uN (1 : Int32) = 1 := rfl
  have e32 : uN (L.1 3 + 2) = pc + 2 := by rw [u_add (by omega), e3, u2]
  obtain ⟨b, eb, _⟩ := mi.2.2.1
  have cr := Ct_row mi.2.2.1 eb
  obtain ⟨o32, o33, o34, o35, o36, o37, o38, o39, o41, o42, o40⟩ := ok
  -- a push of a value, then on
  have pu : ∀ (x : Int32) (v : Int32), Gv g x → Nx c (uN v) u (d + 1) r rk → Tm (fun k => ox (f_X3_push k 0 (lI lZ 1 x) σ) (fun r3 => f_X3_data k 12 L (uI r3.2.1 1900 v))) (IO c B KB f0 u0 σ (mu σ (qv nf sq rk))) := by
    intro x v gx nx
    refine Tm_oxc (c_push st1 st2) (fun q z => by rw [z.1]) (fun q z => ?_)
    exact b12 _ _ _ (pu_fin (n := 1) p gx z rfl (fun j hj => upd_other hj) nx)
  have pu2 : ∀ (x : Int32), Gv g x → Nx c (pc + 1) u (d + 1) r rk → Tm (fun k => ox (f_X3_push k 0 (lI lZ 1 x) σ) (fun r3 => f_X3_data k 12 L r3.2.1)) (IO c B KB f0 u0 σ (mu σ (qv nf sq rk))) := by
    intro x gx nx
    refine Tm_oxc (c_push st1 st2) (fun q z => by rw [z.1]) (fun q z => ?_)
    refine b12 _ _ _ (pu_fin (n := 1) p gx z rfl (fun _ _ => rfl) ?_)
    rw [z.2.2.1.1 1900 (by decide), hpc, u_n (by omega)]
    exact nx
  have gi : ∀ (g' : Nat → Prop) (l' : List Nat) (t' : Nat) (σ' : CS) (x : Int32) (v : Int32), Ga g t σ g' l' t' σ' → Gv g' x → NxS c (uN v) u (d + 1) r → Tm (fun k => ox (f_X3_give k 0 (lI lZ 1 x) σ') (fun r3 => f_X3_data k 12 L (uI r3.2.1 1900 v))) (IO c B KB f0 u0 σ (mu σ (qv nf sq rk))) := by
    intro g' l' t' σ' x v ga gx nx
    have p' := Pre_Ga p ga
    have st' := p'.1.2.1.1
    have ts' := TyS_sp p'.2.1
    refine Tm_oxc (c_give p'.1.1 gx (by omega) st'.1 st'.2.1 p'.2.2.1) (fun q z => by rw [z.1]) (fun q z => ?_)
    refine b12 _ _ _ ?_
    have md : Md σ σ' := Md_S (Sm_A ga.2.2.2.2)
    rw [← mu_e (ga.2.2.2.2.1 1905 (by decide)) (ga.2.2.2.2.1 1814 (by decide))]
    exact IO_b md (by rw [ga.2.2.2.2.2.2.2]) (gi_fin (σ' := uI q.2.1 1900 v) p' gx z rfl (fun j hj => upd_other hj) nx _)
  have b9 : 1 ≤ d → NxS c (pc + 1) u d r → Tm (fun k => f_X3_data k 9 L σ) (IO c B KB f0 u0 σ (mu σ (qv nf sq rk))) := by
    intro k1 k2
    have ea : uN (σ.1 1902 - 1) = uN (σ.1 1902) - 1 := by rw [u_sub (by omega), u1]
    have gt := Ty_v p (q := uN (σ.1 1902) - 1) (by omega) (by omega)
    refine Tm_suc (fun k => by rw [f_X3_data]) ?_
    refine Tm_chk (u_in (by omega) (by omega)) ?_
    refine Tm_op (c_size1 mi.1 (by show Gv g (σ.2.2.1 20 (σ.1 1902 - 1).toNatClampNeg); rw [u_cl (by omega), ea]; exact gt)) (fun q2 z => ?_)
    have e2 : q2.2 = σ := z.1
    rw [e2]
    refine Tm_op c_spend (fun q3 e3' => ?_)
    rw [e3']
    refine b12 _ _ _ (re_fin (σ' := spS σ q2.1) p k1 gt (Re_sp z.2.1 z.2.2 w) rfl (fun _ _ => rfl) ?_ _)
    have e19 : (spS σ q2.1).1 1900 = σ.1 1900 := (spS_m σ q2.1).1 1900 (by decide)
    rw [e19, hpc, u_n (by omega)]
    exact k2
  refine Tm_suc (fun k => by rw [f_X3_data]) ?_
  rw [h1]
  refine Tm_ite (fun q => ?_) (fun q1 => Tm_ite (fun q => ?_) (fun q2 => Tm_ite (fun q => ?_) (fun q3 => Tm_ite (fun q => ?_) (fun q4 => Tm_ite (fun q => ?_) (fun q5 => Tm_ite (fun q => ?_) (fun q6 => Tm_ite (fun q => ?_) (fun q7 => Tm_ite (fun q => ?_) (fun q8 => Tm_ite (fun q => ?_) (fun q9 => Tm_ite (fun q => ?_) (fun q10 => Tm_ite (fun q => ?_) (fun q11 => ?_)))))))))))
  · obtain ⟨k1, k2, k3⟩ := o32 ((op_n ho (by decide)).1 q)
    refine Tm_suc (fun k => by rw [f_X3_data]) ?_
    refine Tm_oP eb ?_
    refine Tm_chk (u_in (by rw [e31, cr.2.1]; exact k1) (by rw [cr.2.1]; omega)) ?_
    rw [u_cl (by omega), e31, cr.1]
    exact pu _ _ (Lit_g mi.1 k2) (by rw [e32]; exact k3)
  · obtain ⟨k1, k2, k3⟩ := o33 ((op_n ho (by decide)).1 q)
    refine Tm_suc (fun k => by rw [f_X3_data]) ?_
    refine Tm_oP eb ?_
    refine Tm_chk (u_in (by rw [e31, cr.2.1]; exact k1) (by rw [cr.2.1]; omega)) ?_
    rw [u_cl (by omega), e31, cr.1]
    exact gi g l t σ _ _ (Ga_X mi.1 (AXf_r σ)) (Lit_g mi.1 k2) (by rw [e32]; exact k3)
  · obtain ⟨k1, k2, k3⟩ := o34 ((op_n ho (by decide)).1 q)
    have k2' := k2.2.1
    refine Tm_suc (fun k => by rw [f_X3_data]) ?_
    refine Tm_oP eb ?_
    refine Tm_op (c_makeCopy (C := tcC c) mi.1 cr.1 (by show sN σ (pR0 (sKd σ b)) ≤ _; rw [cr.2.1]; omega) (by show uN (L.1 3 + 1) + uN (L.1 2) ≤ sN σ (pR0 (sKd σ b)); rw [cr.2.1, e31]; exact k1) (by show LitC (tcC c) (uN (L.1 3 + 1)) (uN (L.1 2)); rw [e31]; exact k2)) (fun q2 z => ?_)
    obtain ⟨g', l', t', ga, v⟩ := z
    refine gi g' l' t' q2.2 q2.1 _ ga (v.elim id Gv_rw) ?_
    rw [u_add (by omega), e31]
    exact k3
  · obtain ⟨k1, k2⟩ := o35 ((op_n ho (by decide)).1 q)
    have hv := SL_hv k1.1 _ _ _ ty.1 k1.2
    have ea : uN (σ.1 1901 + 4 + L.1 2) = uN (σ.1 1901) + 4 + uN (L.1 2) := by rw [u_add (by rw [u_add (by omega)]; omega), u_add (by omega), u4]
    refine Tm_suc (fun k => by rw [f_X3_data]) ?_
    refine Tm_chk (u_in (by omega) (by omega)) ?_
    refine pu2 _ ?_ k2
    rw [u_cl (by omega), ea]
    exact Rwk_v st3 (by omega) hv.2
  · obtain ⟨k1, k2⟩ := o36 ((op_n ho (by decide)).1 q)
    have mb := mi.2.2.2.2.2.2.1
    have ea : uN (4 + L.1 2) = 4 + uN (L.1 2) := by rw [u_add (by omega), u4]
    have kn : K (4 + uN (L.1 2)) = none := by
      rw [mi.2.2.2.2.2.1 _ (by omega)]
      rcases p.2.2.2.2 with y | y
      · exact (y.2 _ (by omega)).trans (KH_n (by omega))
      · exact (y.1 _).trans (KH_n (by omega))
    refine Tm_suc (fun k => by rw [f_X3_data]) ?_
    refine Tm_chk (u_in (by omega) (by omega)) ?_
    refine pu2 _ ?_ k2
    rw [u_cl (by omega), ea]
    exact (st3 _ (by omega)).2.1 kn
  · obtain ⟨d', r', k1, k2⟩ := o37 ((op_n ho (by decide)).1 q)
    have pd := Pre_dp p k1 k2.choose_spec.2.2
    refine Tm_suc (fun k => by rw [f_X3_data]) ?_
    refine b12 _ _ _ ?_
    have z := fl_fin (rk := rk) pd.1 rfl (fun _ _ => rfl) (by
      show Nx c (uN (σ.1 1900)) u d' r' rk
      rw [hpc, u_n (by omega)]; exact k2)
    exact IO_b (Md_i σ (by decide) _) rfl z
  · obtain ⟨k1, k2⟩ := o38 ((op_n ho (by decide)).1 q)
    have ea : uN (σ.1 1902 - 1 - L.1 2) = uN (σ.1 1902) - 1 - uN (L.1 2) := by rw [u_sub (by rw [u_sub (by omega)]; omega), u_sub (by omega), u1]
    refine Tm_suc (fun k => by rw [f_X3_data]) ?_
    refine Tm_chk (u_in (by omega) (by omega)) ?_
    refine pu2 _ ?_ k2
    rw [u_cl (by omega)]
    exact Ty_v p (by omega) (by omega)
  · obtain ⟨k1, k2⟩ := o39 ((op_n ho (by decide)).1 q)
    have ea : uN (σ.1 1902 - 1) = uN (σ.1 1902) - 1 := by rw [u_sub (by omega), u1]
    have ea2 : uN (σ.1 1902 - 2) = uN (σ.1 1902) - 2 := by rw [u_sub (by omega), u2]
    have i1 : ¬ (σ.1 1902 - 1 < 0 ∨ sN σ 20 ≤ (σ.1 1902 - 1).toNatClampNeg) := u_in (by omega) (by omega)
    have i2 : ¬ (σ.1 1902 - 2 < 0 ∨ sN σ 20 ≤ (σ.1 1902 - 2).toNatClampNeg) := u_in (by omega) (by omega)
    refine Tm_suc (fun k => by rw [f_X3_data]) ?_
    refine Tm_chk i1 (Tm_chk i2 (Tm_chk i1 (Tm_chk i2 ?_)))
    refine b12 _ _ _ ?_
    have kt1 : K (uN (σ.1 1902) - 1) = none := SL_top _ _ _ ty.1 _ (by omega) (by omega)
    have kt2 : K (uN (σ.1 1902) - 2) = none := SL_top _ _ _ ty.1 _ (by omega) (by omega)
    have c1 : (σ.1 1902 - 1).toNatClampNeg = uN (σ.1 1902) - 1 := by rw [u_cl (by omega), ea]
    have c2 : (σ.1 1902 - 2).toNatClampNeg = uN (σ.1 1902) - 2 := by rw [u_cl (by omega), ea2]
    have sw : Pre c g l t K K2 K3 K4 B KB f0 u0 (uA (uA σ 20 (σ.1 1902 - 1).toNatClampNeg (σ.2.2.1 20 (σ.1 1902 - 2).toNatClampNeg)) 20 (σ.1 1902 - 2).toNatClampNeg (σ.2.2.1 20 (σ.1 1902 - 1).toNatClampNeg)) fs u d r pb nf nc sq := by
      have md : Md σ (uA (uA σ 20 (σ.1 1902 - 1).toNatClampNeg (σ.2.2.1 20 (σ.1 1902 - 2).toNatClampNeg)) 20 (σ.1 1902 - 2).toNatClampNeg (σ.2.2.1 20 (σ.1 1902 - 1).toNatClampNeg)) := Md_t (Md_A σ (by decide) _ _) (Md_A _ (by decide) _ _)
      have v := VI_20 (K' := K) mi.2.1 md rfl ⟨fun _ z => z, fun _ _ => rfl⟩ st1 st2 (by
        intro j hj
        show Gw g (upd (upd (σ.2.2.1 20) (σ.1 1902 - 1).toNatClampNeg (σ.2.2.1 20 (σ.1 1902 - 2).toNatClampNeg)) (σ.1 1902 - 2).toNatClampNeg (σ.2.2.1 20 (σ.1 1902 - 1).toNatClampNeg) j) ∧ (K j = none → Gv g (upd (upd (σ.2.2.1 20) (σ.1 1902 - 1).toNatClampNeg (σ.2.2.1 20 (σ.1 1902 - 2).toNatClampNeg)) (σ.1 1902 - 2).toNatClampNeg (σ.2.2.1 20 (σ.1 1902 - 1).toNatClampNeg) j)) ∧ ∀ v, K j = some v → ((upd (upd (σ.2.2.1 20) (σ.1 1902 - 1).toNatClampNeg (σ.2.2.1 20 (σ.1 1902 - 2).toNatClampNeg)) (σ.1 1902 - 2).toNatClampNeg (σ.2.2.1 20 (σ.1 1902 - 1).toNatClampNeg) j) = v ∧ Rr v) ∨ Mkd g (σ.2.2.1 3) v (upd (upd (σ.2.2.1 20) (σ.1 1902 - 1).toNatClampNeg (σ.2.2.1 20 (σ.1 1902 - 2).toNatClampNeg)) (σ.1 1902 - 2).toNatClampNeg (σ.2.2.1 20 (σ.1 1902 - 1).toNatClampNeg) j)
        rw [c1, c2]
        have hj' : j < uN (σ.1 1902) := hj
        by_cases z2 : j = uN (σ.1 1902) - 2
        · rw [z2, upd_same, kt2]
          exact Rwn (Ty_v p (by omega) (by omega))
        · rw [upd_other z2]
          by_cases z1 : j = uN (σ.1 1902) - 1
          · rw [z1, upd_same, kt1]
            exact Rwn (Ty_v p (by omega) (by omega))
          · rw [upd_other z1]
            exact st3 j hj')
      exact ⟨MIn_d mi md (HQ_fr mi.1 rfl rfl rfl) v mi.2.2.2.2.2.1 mi.2.2.2.2.2.2.1.2, ty, w, p.2.2.2⟩
    have z := fl_fin (rk := rk) sw rfl (fun _ _ => rfl) (by
      show Nx c (uN (σ.1 1900)) u d r rk
      rw [hpc, u_n (by omega)]; exact k2)
    exact IO_b (Md_t (Md_A σ (by decide) _ _) (Md_A _ (by decide) _ _)) rfl z
  · obtain ⟨k1, k2⟩ := o40 (Or.inl ((op_n ho (by decide)).1 q))
    exact b9 k1 k2
  · obtain ⟨k1, k2⟩ := o41 ((op_n ho (by decide)).1 q)
    have fb := (FC_b _ _ _ _ _ _ _ ty.2.1).1
    have e11 := ty.2.2.2.2.1
    have n20 := ty.2.2.2.1.2
    have ea : uN (σ.1 1811 + L.1 2) = uN (σ.1 1811) + uN (L.1 2) := u_add (by omega)
    refine Tm_suc (fun k => by rw [f_X3_data]) ?_
    refine Tm_chk (u_in (by omega) (by decide)) ?_
    refine pu2 _ ?_ k2
    have hv := PaM_hv (show uN (L.1 2) < 500000 by omega) _ ty.2.2.2.2.2.2.2.2 k1.2
    rw [u_cl (by omega), ea, e11]
    exact Rwk_v mi.2.1.2.1 (by omega) hv.2
  · obtain ⟨k1, k2⟩ := o42 ((op_n ho (by decide)).1 q)
    refine Tm_suc (fun k => by rw [f_X3_data]) ?_
    refine Tm_oxc (c_pushAll st1 st2 (by show uN (L.1 2) ≤ _; omega)) (fun q z => by rw [z.1]) (fun q z => ?_)
    refine b12 _ _ _ (pu_fin (n := uN (L.1 2)) p (Gv_om g) z rfl (fun _ _ => rfl) ?_)
    rw [z.2.2.1.1 1900 (by decide), hpc, u_n (by omega)]
    exact k2
  · have nn : ∀ n, n < 256 → ¬ nI op = nI n → ¬ op = n := fun n hn z e => z ((op_n ho hn).2 e)
    have hop : 32 ≤ op := h32
    obtain ⟨k1, k2⟩ := o40 (by
      have a1 := nn 32 (by decide) q1
      have a2 := nn 33 (by decide) q2
      have a3 := nn 34 (by decide) q3
      have a4 := nn 35 (by decide) q4
      have a5 := nn 36 (by decide) q5
      have a6 := nn 37 (by decide) q6
      have a7 := nn 38 (by decide) q7
      have a8 := nn 39 (by decide) q8
      have a9 := nn 40 (by decide) q9
      have a10 := nn 41 (by decide) q10
      have a11 := nn 42 (by decide) q11
      omega)
    exact b9 k1 k2
end CSU
