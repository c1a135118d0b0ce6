/-! The class: a fold goes on. -/
section CTL
variable {g g' g2 : Nat → Prop} {l l' l2 : List Nat} {t t' t2 : Nat} {σ σ' σ2 : CS} {L : LV} {x y i : Int32} {M M' U U' : Nat → Int32} {K K' K2 K2' K3 K4 K4' KB : Nat → Option Int32} {c : Ct} {B f0 u0 : Nat} {fs : List FrT} {u d : Nat} {r r' : List Nat} {pb nf nc sq rk : Nat}
theorem fo_n {dd : Nat} {r0 : List Nat} (p : Pre c g l t K K2 K3 K4 B KB f0 u0 σ fs u d r pb nf nc sq) (hd : d = 0 ∧ r = (750000 + dd) :: r0 ∧ 2 ≤ dd ∧ dd < 250000) (k5 : 5 ≤ kdC (σ.2.2.1 3) (σ.2.2.1 20 (uN (σ.1 1902) - 3))) (kr : 2147483648 ≤ uN (σ.2.2.1 20 (uN (σ.1 1902) - 1))) (tD : tcD c (uN (σ.1 1900)) = some (u + 100, d, r, rk)) {q0 : Nat} (hq : qv nf sq (rk - min (uN (σ.2.2.1 20 (uN (σ.1 1902) - 1)) % 268435456) 1000) < q0) : IO c B KB f0 u0 σ (mu σ q0) ((0, 0), σ, (0, 0)) := by
  obtain ⟨mi, ty, w, h0, bo⟩ := p
  refine ⟨rfl, CoP_0 rfl, MFr_r σ, fun _ _ _ _ _ => rfl, g, l, t, K, K2, K3, K4, mi, fun _ => ⟨_, ⟨w, u, d, r, rk, fs, pb, nf, nc, sq, Or.inr ⟨dd, r0, hd, ty, tD, ⟨k5, kr⟩, rfl⟩⟩, ?_⟩, fun z => absurd h0 z⟩
  unfold qv at hq
  unfold mu
  show uN (σ.1 1814) * (60002 * QK) + (60000 - uN (σ.1 1905)) * QK + ((20 - nf) * (RK + 1) + sq + (rk - min (uN (σ.2.2.1 20 (uN (σ.1 1902) - 1)) % 268435456) 1000)) < _
  omega
theorem fo_s {dd : Nat} {r0 : List Nat} (p : Pre c g l t K K2 K3 K4 B KB f0 u0 σ fs u d r pb nf nc sq) (hd : d = 0 ∧ r = (750000 + dd) :: r0 ∧ 2 ≤ dd ∧ dd < 250000) (k5 : 5 ≤ kdC (σ.2.2.1 3) (σ.2.2.1 20 (uN (σ.1 1902) - 3))) (kr : 2147483648 ≤ uN (σ.2.2.1 20 (uN (σ.1 1902) - 1))) (tD : tcD c (uN (σ.1 1900)) = some (u + 100, d, r, rk)) (hr : rk ≤ 72 * (RK + 1)) {n : Int32} (n1 : 1 ≤ uN n) (n2 : uN n < 1024) (q0 : Nat) : IO c B KB f0 u0 σ (mu σ q0) ((0, 0), spS σ n, (0, 0)) := by
  obtain ⟨mi, ty, w, h0, bo⟩ := p
  have s := spS_s σ n
  have sm := spS_m σ n
  have e02 := s.2.2
  have mt := MIn_fl (σ' := spS σ n) mi s.1 (fun j hj => by
    by_cases z : j = 1
    · rw [z]; exact s.2.1
    by_cases z2 : j = 404 ∨ j = 1203
    · unfold spS
      rcases z2 with e | e <;> subst e <;> split <;> rfl
    exact sm.1 j (by omega)) (by rw [e02]; exact mi.2.2.2.2.2.2.1.2) (by rw [e02]; exact Nat.le_refl _)
  refine ⟨rfl, CoP_0 (by rw [s.1]), Md_M mt.2, fun _ => Md_E mt.2, g, l, t, K, K2, K3, K4, mt.1, fun z => ?_, fun z => ?_⟩
  rotate_left
  · rcases spS_w (σ := σ) n1 n2 w with y | y
    · exact Or.inl y.2
    · exact absurd (y.1.trans h0) z
  have z0 : (spS σ n).1 1812 = 0 := z
  have ww := spS_w (σ := σ) n1 n2 w
  rcases ww with ww | ww
  · rw [ww.1] at z0
    exact absurd z0 (by decide)
  · have ty' : TyS c K K4 f0 u0 (spS σ n) fs u d r pb nf nc sq := TyS_k ty ⟨sm.1 1901 (by decide), sm.1 1815 (by decide), sm.1 1811 (by decide), sm.1 1908 (by decide)⟩ (by rw [e02]; exact ty.1) (fun _ _ => rfl) ty.2.2.1 ty.2.2.2.2.2.2.2.2
    refine ⟨_, ⟨ww.2.2, u, d, r, rk, fs, pb, nf, nc, sq, Or.inr ⟨dd, r0, hd, ty', by show tcD c (uN ((spS σ n).1 1900)) = _; rw [sm.1 1900 (by decide)]; exact tD, ⟨by show 5 ≤ kdC ((spS σ n).2.2.1 3) ((spS σ n).2.2.1 20 (uN ((spS σ n).1 1902) - 3)); rw [e02, s.1]; exact k5, by show 2147483648 ≤ uN ((spS σ n).2.2.1 20 (uN ((spS σ n).1 1902) - 1)); rw [e02, s.1]; exact kr⟩, rfl⟩⟩, ?_⟩
    have z9 := qv_lt (rk := rk - min (uN ((spS σ n).2.2.1 20 (uN ((spS σ n).1 1902) - 1)) % 268435456) 1000) ty (by omega)
    unfold qv at z9
    unfold mu
    have e4 : (spS σ n).1 1814 = σ.1 1814 := sm.1 1814 (by decide)
    show uN ((spS σ n).1 1814) * (60002 * QK) + (60000 - uN ((spS σ n).1 1905)) * QK + ((20 - nf) * (RK + 1) + sq + (rk - min (uN ((spS σ n).2.2.1 20 (uN ((spS σ n).1 1902) - 1)) % 268435456) 1000)) < _
    rw [e4]
    have e : (60000 - uN ((spS σ n).1 1905) + 1) * QK ≤ (60000 - uN (σ.1 1905)) * QK := Nat.mul_le_mul_right _ (by omega)
    rw [Nat.add_mul, Nat.one_mul] at e
    omega
theorem c_foldOn (p : Pre c g l t K K2 K3 K4 B KB f0 u0 σ fs u d r pb nf nc sq) {pc d' : Nat} {r0 : List Nat} (hd : d = 0 ∧ r = (750000 + (d' + 2)) :: r0 ∧ 2 ≤ d' + 2 ∧ d' + 2 < 250000) (k5 : 5 ≤ kdC (σ.2.2.1 3) (σ.2.2.1 20 (uN (σ.1 1902) - 3))) (h1 : L.1 1 = 113) (h3 : L.1 3 = nI pc) (hp : pc + 1 ≤ tcN c) (hN : tcN c ≤ 36864) (hpc : σ.1 1900 = nI (pc + 1)) (tD : tcD c pc = some (u + 100, d, r, rk)) (hr : 1000 ≤ rk ∧ rk ≤ 72 * (RK + 1)) (nS : NxS c (pc + 1) u (d' + 1) r0) : Tm (fun k => f_X3_foldOn k 0 L σ) (IO c B KB f0 u0 σ (mu σ (qv nf sq (rk - min (uN (σ.2.2.1 20 (uN (σ.1 1902) - 1)) % 268435456) 1000)))) := by
  have mi := p.1
  have ty := p.2.1
  obtain ⟨st1, st2, st3⟩ := mi.2.1.1
  have ts := TyS_sp ty
  have tc := SL_tc hd.2.2.2 (show SL K _ _ 0 ((750000 + (d' + 2)) :: r0) by have z := ty.1; rw [hd.1, hd.2.1] at z; exact z)
  have tc1 := tc.1
  have kn : ∀ q, uN (σ.1 1902) - 1 ≤ q + (d' + 2) → q < uN (σ.1 1902) - 1 → K q = none := fun q a b => SL_top _ _ _ tc.2.1 q a b
  have u1 : uN (1 : Int32) = 1 := rfl
  have u2 : uN (2 : Int32) = 2 := rfl
  have u3 : uN (3 : Int32) = 3 := rfl
  have ea : uN (σ.1 1902 - 1) = uN (σ.1 1902) - 1 := by rw [u_sub (by omega), u1]
  have ea2 : uN (σ.1 1902 - 2) = uN (σ.1 1902) - 2 := by rw [u_sub (by omega), u2]
  have ea3 : uN (σ.1 1902 - 3) = uN (σ.1 1902) - 3 := by rw [u_sub (by omega), u3]
  have c1 : (σ.1 1902 - 1).toNatClampNeg = uN (σ.1 1902) - 1 := by rw [u_cl (by omega), ea]
  have c2 : (σ.1 1902 - 2).toNatClampNeg = uN (σ.1 1902) - 2 := by rw [u_cl (by omega), ea2]
  have c3 : (σ.1 1902 - 3).toNatClampNeg = uN (σ.1 1902) - 3 := by rw [u_cl (by omega), ea3]
  have i1 : ¬ (σ.1 1902 - 1 < 0 ∨ sN σ 20 ≤ (σ.1 1902 - 1).toNatClampNeg) := u_in (by omega) (by omega)
  have i2 : ¬ (σ.1 1902 - 2 < 0 ∨ sN σ 20 ≤ (σ.1 1902 - 2).toNatClampNeg) := u_in (by omega) (by omega)
  have i3 : ¬ (σ.1 1902 - 3 < 0 ∨ sN σ 20 ≤ (σ.1 1902 - 3).toNatClampNeg) := u_in (by omega) (by omega)
  have kt1 : K (uN (σ.1 1902) - 1) = some mkC := tc.2.2
  have kt2 : K (uN (σ.1 1902) - 2) = none := kn _ (by omega) (by omega)
  have e3 : uN (L.1 3) = pc := by rw [h3, u_n (by omega)]
  have g2x : Gv g (σ.2.2.1 20 (uN (σ.1 1902) - 2)) := (st3 _ (by omega)).2.1 kt2
  have g3x : Gv g (σ.2.2.1 20 (uN (σ.1 1902) - 3)) := (st3 _ (by omega)).2.1 (kn _ (by omega) (by omega))
  generalize hn : uN (σ.2.2.1 20 (uN (σ.1 1902) - 1)) % 268435456 = nx
  have nl : nx < 268435456 := by omega
  have sq5 := Sq5_k (σ := σ) g3x k5
  have b10 : ∀ (σ' : CS) (L' : LV) (Q : RS → Prop), Q ((0, 0), σ', (0, 0)) → Tm (fun k => f_X3_foldOn k 10 L' σ') Q := by
    intro σ' L' Q h
    refine Tm_suc (fun k => by rw [f_X3_foldOn]) ?_
    exact Tm_some h
  have b4 : nx < lnC (σ.2.2.1 3) (σ.2.2.1 20 (uN (σ.1 1902) - 3)) → ∀ (L' : LV) (g' : Nat → Prop) (l' : List Nat) (t' : Nat) (τ : CS), Ga g t σ g' l' t' τ → (Gv g' (L'.1 100) ∨ Rw (L'.1 100)) → L'.1 3 = L.1 3 → L'.1 4 = nI nx → Tm (fun k => f_X3_foldOn k 4 L' τ) (IO c B KB f0 u0 σ (mu σ (qv nf sq (rk - min nx 1000)))) := by
    intro hl L' g' l' t' τ ga v l3 l4
    have pt := Pre_Ga p ga
    have fe : ∀ j, ¬ (j = 1 ∨ j = 404 ∨ j = 1203) → τ.1 j = σ.1 j := fun j hj => ga.2.2.2.2.1 j (by omega)
    have eN : τ.2.2.2.2.1 = σ.2.2.2.2.1 := by rw [ga.2.2.2.2.2.2.2]
    have gG : Go c u0 σ τ := Go_Md (Md_S (Sm_A ga.2.2.2.2)) eN (fe 1905 (by decide)) (fe 1900 (by decide))
    have n9 : nx < 999 := by
      have lr : lnC (σ.2.2.1 3) (σ.2.2.1 20 (uN (σ.1 1902) - 3)) ≤ 999 := by
        by_cases k7 : kdC (σ.2.2.1 3) (σ.2.2.1 20 (uN (σ.1 1902) - 3)) = 7
        · by_cases lt : uN (σ.2.2.1 20 (uN (σ.1 1902) - 3)) < 2147483648
          · have cg := (HQ_c mi.1 (Gv_c g3x lt).2).2.2.2.2.2.2.1
            unfold kdC at k7
            rw [if_pos lt] at k7
            omega
          · unfold lnC
            rw [if_neg lt]
            split <;> omega
        · exact (row_c mi.1 g3x k5 k7).2
      omega
    refine Tm_suc (fun k => by rw [f_X3_foldOn]) ?_
    refine Tm_op c_isError (fun q z => ?_)
    have e : q.2 = τ := z.1.1
    rw [e]
    refine Tm_ite (fun z0 => ?_) (fun z0 => ?_)
    · have nr : ¬ Rw (L'.1 100) := z.2.1 z0
      have gv : Gv g' (L'.1 100) := v.resolve_right nr
      have k20 : τ.1 1902 = σ.1 1902 := fe 1902 (by decide)
      have s20 : sN τ 20 = sN σ 20 := by show τ.2.2.2.2.1 20 = _; rw [eN]
      obtain ⟨p1, g1⟩ := Pre_s pt kt2 gv
      obtain ⟨p2, g2'⟩ := Pre_sc (x := rwN (nx + 1)) p1 kt1 (Gw_rr (rwN_r (by omega)))
      have p3 := Pre_i (j := 1900) p2 (by decide) (L.1 3)
      have r20 : τ.2.2.1 20 = σ.2.2.1 20 := ga.2.2.2.2.2.2.1 20 (by decide)
      have x3 : (uI (uA (uA τ 20 (uN (σ.1 1902) - 2) (L'.1 100)) 20 (uN (σ.1 1902) - 1) (rwN (nx + 1))) 1900 (L.1 3)).2.2.1 20 (uN ((uI (uA (uA τ 20 (uN (σ.1 1902) - 2) (L'.1 100)) 20 (uN (σ.1 1902) - 1) (rwN (nx + 1))) 1900 (L.1 3)).1 1902) - 3) = σ.2.2.1 20 (uN (σ.1 1902) - 3) := by
        show upd (upd (τ.2.2.1 20) _ _) _ _ (uN (τ.1 1902) - 3) = _
        rw [k20, upd_other (by omega), upd_other (by omega), r20]
      have x1 : (uI (uA (uA τ 20 (uN (σ.1 1902) - 2) (L'.1 100)) 20 (uN (σ.1 1902) - 1) (rwN (nx + 1))) 1900 (L.1 3)).2.2.1 20 (uN ((uI (uA (uA τ 20 (uN (σ.1 1902) - 2) (L'.1 100)) 20 (uN (σ.1 1902) - 1) (rwN (nx + 1))) 1900 (L.1 3)).1 1902) - 1) = rwN (nx + 1) := by
        show upd (upd (τ.2.2.1 20) _ _) _ _ (uN (τ.1 1902) - 1) = _
        rw [k20, upd_same]
      have k5' : 5 ≤ kdC ((uI (uA (uA τ 20 (uN (σ.1 1902) - 2) (L'.1 100)) 20 (uN (σ.1 1902) - 1) (rwN (nx + 1))) 1900 (L.1 3)).2.2.1 3) ((uI (uA (uA τ 20 (uN (σ.1 1902) - 2) (L'.1 100)) 20 (uN (σ.1 1902) - 1) (rwN (nx + 1))) 1900 (L.1 3)).2.2.1 20 (uN ((uI (uA (uA τ 20 (uN (σ.1 1902) - 2) (L'.1 100)) 20 (uN (σ.1 1902) - 1) (rwN (nx + 1))) 1900 (L.1 3)).1 1902) - 3)) := by
        rw [x3]
        show 5 ≤ kdC (τ.2.2.1 3) _
        rw [kdC_ga mi.1 ga g3x]
        exact k5
      have md3 : Md σ (uI (uA (uA τ 20 (uN (σ.1 1902) - 2) (L'.1 100)) 20 (uN (σ.1 1902) - 1) (rwN (nx + 1))) 1900 (L.1 3)) := Md_t (Md_S (Sm_A ga.2.2.2.2)) (Md_t (Md_t (Md_A τ (by decide) _ _) (Md_A _ (by decide) _ _)) (Md_i _ (by decide) _))
      have tD3 : tcD c (uN ((uI (uA (uA τ 20 (uN (σ.1 1902) - 2) (L'.1 100)) 20 (uN (σ.1 1902) - 1) (rwN (nx + 1))) 1900 (L.1 3)).1 1900)) = some (u + 100, d, r, rk) := by
        show tcD c (uN (L.1 3)) = _
        rw [e3]; exact tD
      generalize hρ : uI (uA (uA τ 20 (uN (σ.1 1902) - 2) (L'.1 100)) 20 (uN (σ.1 1902) - 1) (rwN (nx + 1))) 1900 (L.1 3) = ρ at *
      have es : ρ.2.2.2.2.1 = σ.2.2.2.2.1 := by rw [← hρ]; exact eN
      have w5 : ρ.1 1905 = σ.1 1905 := by rw [← hρ]; exact fe 1905 (by decide)
      have w4 : ρ.1 1814 = σ.1 1814 := by rw [← hρ]; exact fe 1814 (by decide)
      refine Tm_suc (fun k => by rw [f_X3_foldOn]) ?_
      rw [k20]
      refine Tm_chk (by rw [s20]; exact i2) ?_
      refine Tm_op c_raw (fun q2 z2 => ?_)
      rw [z2]
      have e41 : uN (L'.1 4 + 1) % 268435456 = nx + 1 := by rw [l4, u_inc (by rw [u_n (by omega)]; omega), u_n (by omega)]; omega
      show Tm (fun k => if ¬ (τ.1 1902 - 1 < 0 ∨ sN τ 20 ≤ (τ.1 1902 - 1).toNatClampNeg) then f_X3_foldOn k 9 (lI L' 8 (L'.1 100)) (uA (uA τ 20 (σ.1 1902 - 2).toNatClampNeg (L'.1 100)) 20 (τ.1 1902 - 1).toNatClampNeg (rwN (uN (L'.1 4 + 1) % 268435456))) else none) _
      rw [k20]
      refine Tm_chk (by rw [s20]; exact i1) ?_
      rw [c1, c2, e41]
      refine Tm_suc (fun k => by rw [f_X3_foldOn]) ?_
      have l3' : (lI L' 8 (L'.1 100)).1 3 = L.1 3 := l3
      rw [l3', hρ]
      refine Tm_ite (fun _ => ?_) (fun _ => ?_)
      · refine b10 _ _ _ ?_
        rw [← mu_e w5 w4]
        refine IO_b md3 es (fo_n p3 hd k5' (by rw [x1, rwN_u (by omega)]; omega) tD3 ?_)
        rw [x1, unr (by omega)]
        unfold qv
        omega
      · refine Tm_op (c_size1 p3.1.1 gv) (fun q3 z3 => ?_)
        have e3' : q3.2 = ρ := z3.1
        rw [e3']
        refine Tm_op c_spend (fun q4 z4 => ?_)
        rw [z4]
        refine b10 _ _ _ ?_
        rw [← mu_e w5 w4]
        exact IO_b md3 es (fo_s p3 hd k5' (by rw [x1, rwN_u (by omega)]; omega) tD3 hr.2 z3.2.1 z3.2.2 _)
    · refine Tm_op c_fail (fun q3 e3' => ?_)
      rw [e3']
      have er : Rr (L'.1 100) := by
        rcases Nat.lt_or_ge (uN (L'.1 100)) 4026531840 with y | y
        · exact absurd (z.2.2.2 (fun z => by have z' : 4026531840 ≤ uN (L'.1 100) := z; omega)) z0
        · exact y
      refine Tm_some (ha_go pt gG rfl (fun j hj => ?_) rfl (f13 (nz_15 (er_of v er))))
      show upd (upd τ.1 1813 _) 1812 1 j = _
      rw [upd_other (by omega), upd_other (by omega)]
  refine Tm_suc (fun k => by rw [f_X3_foldOn]) ?_
  refine Tm_no (by rw [h1]; decide) ?_
  refine Tm_suc (fun k => by rw [f_X3_foldOn]) ?_
  refine Tm_chk i1 ?_
  rw [c1]
  refine Tm_op c_unraw (fun q z => ?_)
  rw [z]
  refine Tm_chk i2 ?_
  refine Tm_chk i3 ?_
  rw [c2, c3]
  refine Tm_op (c_length mi.1 g3x) (fun q2 z2 => ?_)
  rw [z2]
  have ll := lnC_lt (σ.2.2.1 3) (σ.2.2.1 20 (uN (σ.1 1902) - 3))
  have en : nI (uN ((lI lZ 0 (σ.2.2.1 20 (uN (σ.1 1902) - 1))).1 0) % 268435456) = nI nx := by rw [← hn]; rfl
  rw [en]
  have el : (lI lZ 1 (σ.2.2.1 20 (uN (σ.1 1902) - 3))).1 1 = σ.2.2.1 20 (uN (σ.1 1902) - 3) := rfl
  rw [el]
  refine Tm_ite (fun cl => ?_) (fun _ => ?_)
  · have cl' : nI nx < nI (lnC (σ.2.2.1 3) (σ.2.2.1 20 (uN (σ.1 1902) - 3))) := cl
    rw [u_ltn (by rw [u_n (by omega)]; omega) (by rw [u_n (by omega)]; omega), u_n (by omega), u_n (by omega)] at cl'
    have gr : Ga g t σ g l t σ := Ga_X mi.1 (AXf_r σ)
    have b8 : ∀ L' : LV, Gv g (L'.1 101) → Gv g (L'.1 102) → L'.1 3 = L.1 3 → L'.1 4 = nI nx → Tm (fun k => f_X3_foldOn k 8 L' σ) (IO c B KB f0 u0 σ (mu σ (qv nf sq (rk - min nx 1000)))) := by
      intro L' ga gb l3 l4
      refine Tm_suc (fun k => by rw [f_X3_foldOn]) ?_
      refine Tm_op (c_larger mi.1 gb ga) (fun q z => ?_)
      have e : q.2 = σ := z.1
      rw [e]
      exact b4 cl' _ g l t σ gr z.2 l3 l4
    refine Tm_suc (fun k => by rw [f_X3_foldOn]) ?_
    refine Tm_op (c_member mi.1 sq5.1 sq5.2) (fun q3 z3 => ?_)
    rw [z3]
    have gm := mbC_g (y := nI nx) mi.1 sq5.1 sq5.2
    refine Tm_ite (fun _ => ?_) (fun _ => ?_)
    · refine Tm_op (c_sum mi.1 g2x gm) (fun q4 z4 => ?_)
      obtain ⟨g', l', t', ga, v⟩ := z4
      exact b4 cl' _ g' l' t' q4.2 ga v rfl rfl
    · refine Tm_suc (fun k => by rw [f_X3_foldOn]) ?_
      refine Tm_ite (fun _ => ?_) (fun _ => ?_)
      · refine Tm_op (c_productA mi.1 g2x gm) (fun q4 z4 => ?_)
        obtain ⟨g', l', t', ga, v⟩ := z4
        exact b4 cl' _ g' l' t' q4.2 ga v rfl rfl
      · refine Tm_suc (fun k => by rw [f_X3_foldOn]) ?_
        refine Tm_ite (fun _ => ?_) (fun _ => ?_)
        · exact b8 _ gm g2x rfl rfl
        · refine Tm_suc (fun k => by rw [f_X3_foldOn]) ?_
          exact b8 _ gm g2x rfl rfl
  · obtain ⟨pd, es⟩ := Pre_dp (x := 2) (d' := d' + 1) (r' := r0) p (by
      rw [hd.1, hd.2.1]
      refine ⟨fun K lo hi h => ?_, fun K pb m h => h.2 (by unfold bsl; omega)⟩
      have z := SL_tc hd.2.2.2 h
      have y := SL_pop r0 (hi - 1) (d' + 1) 1 z.2.1
      exact ⟨by show 2 ≤ hi; omega, by show SL K lo (hi - 2) (d' + 1) r0; rw [show hi - 2 = hi - 1 - 1 by omega]; exact y⟩) nS.choose_spec.2.2
    refine Tm_op (reX pd (by omega) (Md_i σ (by decide) _) rfl rfl rfl g2x (by
      show NxS c (uN (σ.1 1900)) u (d' + 1) r0
      rw [hpc, u_n (by omega)]; exact nS) (qv nf sq (rk - min nx 1000))) (fun q3 z3 => ?_)
    exact Tm_some z3
end CTL
