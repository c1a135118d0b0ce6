/-! The class: going back to a saved run. -/
section CUM
variable {g g' g2 : Nat → Prop} {l l' l2 : List Nat} {t t' t2 : Nat} {σ σ' σ2 τ τ' φ : CS} {L : LV} {x y z i : Int32} {M M' U U' : Nat → Int32} {K K' K0 K2 K2' K3 K3' K4 K4' KB : Nat → Option Int32} {c : Ct} {B f0 u0 a T : Nat} {fs : List FrT} {u d : Nat} {r r' : List Nat} {pb nf nc sq rk : Nat}
/-- where a saved run lies -/
theorem Sv_at (mi : MIn c g l t K K2 K3 K4 B KB σ) (ha : a < uN (σ.1 2404) ∨ (a = 8 ∧ ¬ σ.1 2405 = 0)) : a < 9 ∧ sPi σ a < 9 ∧ SvR c K3 σ (sPi σ a) (uN (σ.2.2.1 27 a)) ∧ uN (σ.2.2.1 27 a) + uN (σ.1 (100 * (28 + sPi σ a) + 2)) + uN (σ.1 (100 * (28 + sPi σ a) + 13)) ≤ uN (usI σ) := by
  have s8 := SV8_of mi
  obtain ⟨m1, ⟨v1, v2, v3, v4, v5, v6, v7, v8⟩, m3, m4, ⟨⟨⟨s1, s2⟩, s3, s3'⟩, s4, s5, s6, s7⟩, m6⟩ := mi
  rcases ha with h | ⟨h, h5⟩
  · have z := s6 a h
    have us : uN (σ.1 2403) ≤ uN (usI σ) := by
      unfold usI
      by_cases h : σ.1 2405 = 0
      · rw [if_pos h]; exact Nat.le_refl _
      · have z := (s7 h).2.2
        rw [if_neg h, u_add (by rw [u_add (by omega)]; omega), u_add (by omega)]
        omega
    exact ⟨by omega, s4 a (by omega), z.1, by have := z.2.1; omega⟩
  · subst h
    have z := s7 h5
    have us : uN (usI σ) = uN (σ.1 2403) + uN (σ.1 (100 * (28 + sPi σ 8) + 2)) + uN (σ.1 (100 * (28 + sPi σ 8) + 13)) := by
      have z := z.2.2
      unfold usI
      rw [if_neg h5, u_add (by rw [u_add (by omega)]; omega), u_add (by omega)]
    refine ⟨by decide, s4 8 (by decide), by rw [z.2.1]; exact z.1, by rw [z.2.1, us]; exact Nat.le_refl _⟩
theorem c_take (mi : MIn c g l t K K2 K3 K4 (4 + tcF c 0) KH σ) (by0 : BY False σ) (h2 : L.1 2 = nI a) (ha : a < uN (σ.1 2404) ∨ (a = 8 ∧ ¬ σ.1 2405 = 0)) (le : uN (σ.1 (100 * (28 + sPi σ a) + 3)) ≤ uN (L.1 1)) (hn : uN (L.1 1) ≤ uN (σ.1 1903)) : Tm (fun k => f_X3_goBack k 1 L σ) (fun q => q.1.1 = 0 ∧ q.1.2 = L.1 1 - q.2.1.1 1903 ∧ uN (q.2.1.1 1903) ≤ uN (L.1 1) ∧ CoP σ q ∧ MFr σ q.2.1 ∧ Mst c q.2.1) := by
  obtain ⟨a9, p9, sv, us⟩ := Sv_at mi ha
  have ca : (L.1 2).toNatClampNeg = a := by rw [h2, u_cl (by rw [u_n (by omega)]; omega), u_n (by omega)]
  have ia : ¬ (L.1 2 < 0 ∨ 9 ≤ a) := by
    have z : ¬ (L.1 2 < 0 ∨ 9 ≤ (L.1 2).toNatClampNeg) := u_in (by rw [h2, u_n (by omega)]; omega) (by decide)
    rw [ca] at z; exact z
  obtain ⟨m1, ⟨v1, v2, v3, v4, v5, v6, v7, v8⟩, m3, m4, m5, m6, m7, m8, m9, m10, m11⟩ := mi
  obtain ⟨run, ⟨e7, w5⟩, ⟨x1, x2, x3, x4, x5, x6⟩, pok⟩ := sv
  generalize hp : sPi σ a = p at *
  have e0 : (0 : Int32).toNatClampNeg = 0 := rfl
  refine Tm_suc (fun k => by rw [f_X3_goBack]) ?_
  rw [ca, hp]
  refine Tm_chk ia ?_
  refine Tm_op (Tm_By (c_copyBack (p := p) p9 rfl) (fun k => kb_y_X8_copyFrom__a19__R _ _ _ _ by0)) (fun q z => ?_)
  obtain ⟨⟨z1, z2, v, z3⟩, by3⟩ := z
  generalize q.2 = ρ at *
  have y0 : ρ.1 1900 = σ.1 (100 * (28 + p) + 0) := z2 0 (by decide)
  have y1 : ρ.1 1901 = σ.1 (100 * (28 + p) + 1) := z2 1 (by decide)
  have y2 : ρ.1 1902 = σ.1 (100 * (28 + p) + 2) := z2 2 (by decide)
  have y3 : ρ.1 1903 = σ.1 (100 * (28 + p) + 3) := z2 3 (by decide)
  have y5 : ρ.1 1905 = σ.1 (100 * (28 + p) + 5) := z2 5 (by decide)
  have y8 : ρ.1 1908 = σ.1 (100 * (28 + p) + 8) := z2 8 (by decide)
  have y12 : ρ.1 1912 = σ.1 (100 * (28 + p) + 12) := z2 12 (by decide)
  have y13 : ρ.1 1913 = σ.1 (100 * (28 + p) + 13) := z2 13 (by decide)
  have y14 : ρ.1 1914 = σ.1 (100 * (28 + p) + 14) := z2 14 (by decide)
  have y15 : ρ.1 1915 = σ.1 (100 * (28 + p) + 15) := z2 15 (by decide)
  have rk : ∀ k, ρ.2.2.1 k = σ.2.2.1 k := fun k => by rw [z3]; rfl
  have rn : ∀ k, sN ρ k = sN σ k := fun k => by show ρ.2.2.2.2.1 k = _; rw [z3]; rfl
  have rp : ∀ i, sPi ρ i = sPi σ i := fun i => by show ρ.2.2.2.2.2.2 i = _; rw [z3]; rfl
  generalize hst : uN (σ.2.2.1 27 a) = st at *
  have cst : (σ.2.2.1 27 a).toNatClampNeg = st := by rw [u_cl (by omega)]; exact hst
  have csp : (σ.1 (100 * (28 + p) + 2)).toNatClampNeg = uN (σ.1 (100 * (28 + p) + 2)) := u_cl (by omega)
  have ctp : (σ.1 (100 * (28 + p) + 13)).toNatClampNeg = uN (σ.1 (100 * (28 + p) + 13)) := u_cl (by omega)
  have eS : uN (σ.2.2.1 27 a + σ.1 (100 * (28 + p) + 2)) = st + uN (σ.1 (100 * (28 + p) + 2)) := by rw [u_add (by omega), hst]
  have cS : (σ.2.2.1 27 a + σ.1 (100 * (28 + p) + 2)).toNatClampNeg = st + uN (σ.1 (100 * (28 + p) + 2)) := by rw [u_cl (by omega)]; exact eS
  refine Tm_chk ia ?_
  rw [rk 27, rk 26, rk 20, y2, e0, cst, csp, rn 26, rn 20]
  refine Tm_chk ⟨by rw [u_neg]; omega, by decide, by rw [u_neg]; omega, by omega, by omega⟩ ?_
  generalize hω : uF ρ 20 (va_cpy (σ.2.2.1 26) (σ.2.2.1 20) st 0 (uN (σ.1 (100 * (28 + p) + 2)))) = ω
  have w1 : ω.1 = ρ.1 := by rw [← hω]; rfl
  have wk : ∀ k, ¬ k = 20 → ω.2.2.1 k = σ.2.2.1 k := fun k hk => by
    rw [← hω]
    show updG ρ.2.2.1 20 (va_cpy (σ.2.2.1 26) (σ.2.2.1 20) st 0 (uN (σ.1 (100 * (28 + p) + 2)))) k = _
    rw [updG_other hk]; exact rk k
  have w20 : ω.2.2.1 20 = va_cpy (σ.2.2.1 26) (σ.2.2.1 20) st 0 (uN (σ.1 (100 * (28 + p) + 2))) := by rw [← hω]; exact uF_s ρ 20 (va_cpy (σ.2.2.1 26) (σ.2.2.1 20) st 0 (uN (σ.1 (100 * (28 + p) + 2))))
  have wn : ∀ k, sN ω k = sN σ k := fun k => by rw [← hω]; exact rn k
  refine Tm_suc (fun k => by rw [f_X3_goBack]) ?_
  rw [ca, w1, wk 27 (by decide), wk 26 (by decide), wk 21 (by decide), y2, y13, e0, cS, ctp, wn 26, wn 21]
  refine Tm_chk ia ?_
  refine Tm_chk ⟨by rw [u_neg]; omega, by decide, by rw [u_neg]; omega, by omega, by omega⟩ ?_
  have byω : BY False ω := by rw [← hω]; exact BY_F (by decide) by3
  generalize hψ : uF ω 21 (va_cpy (σ.2.2.1 26) (σ.2.2.1 21) (st + uN (σ.1 (100 * (28 + p) + 2))) 0 (uN (σ.1 (100 * (28 + p) + 13)))) = ψ
  have byψ : BY False ψ := by rw [← hψ]; exact BY_F (by decide) byω
  have q1 : ψ.1 = ρ.1 := by rw [← hψ]; exact w1
  have qk : ∀ k, ¬ (k = 20 ∨ k = 21) → ψ.2.2.1 k = σ.2.2.1 k := fun k hk => by
    rw [← hψ]
    show updG ω.2.2.1 21 (va_cpy (σ.2.2.1 26) (σ.2.2.1 21) (st + uN (σ.1 (100 * (28 + p) + 2))) 0 (uN (σ.1 (100 * (28 + p) + 13)))) k = _
    rw [updG_other (fun e => hk (Or.inr e))]; exact wk k (fun e => hk (Or.inl e))
  have q20 : ψ.2.2.1 20 = va_cpy (σ.2.2.1 26) (σ.2.2.1 20) st 0 (uN (σ.1 (100 * (28 + p) + 2))) := by rw [← hψ]; exact w20
  have q21 : ψ.2.2.1 21 = va_cpy (σ.2.2.1 26) (σ.2.2.1 21) (st + uN (σ.1 (100 * (28 + p) + 2))) 0 (uN (σ.1 (100 * (28 + p) + 13))) := by rw [← hψ]; exact uF_s ω 21 (va_cpy (σ.2.2.1 26) (σ.2.2.1 21) (st + uN (σ.1 (100 * (28 + p) + 2))) 0 (uN (σ.1 (100 * (28 + p) + 13))))
  have qn : ∀ k, sN ψ k = sN σ k := fun k => by rw [← hψ]; exact wn k
  have qe : ψ.2.2.2 = σ.2.2.2 := by
    rw [← hψ]
    show ω.2.2.2 = _
    rw [← hω]
    show ρ.2.2.2 = _
    rw [z3]; rfl
  have ql : ψ.2.1 = updW σ.2.1 1916 v := by
    rw [← hψ]
    show ω.2.1 = _
    rw [← hω]
    show ρ.2.1 = _
    rw [z3]; rfl
  have o : ∀ j, ¬ (1900 ≤ j ∧ j < 1916) → ψ.1 j = σ.1 j := fun j hj => by rw [q1]; exact z1 j hj
  have qp : ∀ i, sPi ψ i = sPi σ i := fun i => by show ψ.2.2.2.2.2.2 i = _; rw [qe]
  have mf : MFr σ ψ := ⟨fun j hj => o j (by omega), fun j hj => by rw [ql]; exact updW_other (by omega), fun k hk => by
    unfold rwM at hk
    exact ⟨qk k (by omega), qn k⟩, by rw [qe], by rw [qe]⟩
  have usE : usI ψ = usI σ := by
    unfold usI
    rw [qp, o 2405 (by decide), o 2403 (by decide), o (100 * (28 + sPi σ 8) + 2) (by omega), o (100 * (28 + sPi σ 8) + 13) (by omega)]
  have t2x := (RUN_sp run).1
  obtain ⟨ru, rd, rr, rs, rf, rm, t1, t2', t3, t4, t5, t6, t7, t8, t9, t10, t11, t12⟩ := run
  have run' : RUN c (fun j => K3 (st + j)) (uN (ψ.1 1900)) (uN (ψ.1 1901)) (uN (ψ.1 1902)) (uN (ψ.1 1908)) 0 := by
    rw [q1, y0, y1, y2, y8]
    exact ⟨ru, rd, rr, rs, rf, rm, t1, t2', t3, t4, t5, t6, t7, t8, t9, t10, t11, t12⟩
  have mn : MIn c g l t (fun j => K3 (st + j)) (fun j => K3 (st + uN (σ.1 (100 * (28 + p) + 2)) + j)) K3 K4 (4 + tcF c 0) KH ψ := by
    refine ⟨HQ_ft m1 (o 1 (by decide)) (qk 3 (by decide)) (qn 3) (qn 1) (qn 2), ⟨⟨?_, ?_, ?_⟩, ?_, ⟨?_, ?_, ?_⟩, ?_, ?_, ?_, ?_, ?_⟩, CtL_M m3 mf, ?_, SVK_g m5 (fun j h1 h2 => o j (by omega)) (qk 27 (by decide)) qp (by rw [qn]; exact Nat.le_refl _) (by rw [qn]; exact Nat.le_refl _), t12, ⟨Nat.le_refl _, by rw [q1, y2]; exact t11⟩, ?_, by rw [q1, y12]; exact x2, by rw [q1, y14]; exact x3, by rw [q1, y15]; exact x4⟩
    · rw [q1, y2, qn]; exact x5
    · rw [qn]; exact v1.2.1
    · rw [q1, y2, q20, qk 3 (by decide)]
      intro j hj
      show Gw g (va_cpy (σ.2.2.1 26) (σ.2.2.1 20) st 0 (uN (σ.1 (100 * (28 + p) + 2))) j) ∧ _
      have e : va_cpy (σ.2.2.1 26) (σ.2.2.1 20) st 0 (uN (σ.1 (100 * (28 + p) + 2))) j = σ.2.2.1 26 (st + j) := by
        unfold va_cpy
        rw [if_pos (by omega), Nat.sub_zero]
      rw [e]
      exact v8 (st + j) (by omega)
    · rw [qk 23 (by decide), qk 3 (by decide)]; exact v2
    · rw [q1, y13, qn]; exact x6
    · rw [qn]; exact v3.2.1
    · rw [q1, y13, q21, qk 3 (by decide)]
      intro j hj
      show Gw g (va_cpy (σ.2.2.1 26) (σ.2.2.1 21) (st + uN (σ.1 (100 * (28 + p) + 2))) 0 (uN (σ.1 (100 * (28 + p) + 13))) j) ∧ _
      have e : va_cpy (σ.2.2.1 26) (σ.2.2.1 21) (st + uN (σ.1 (100 * (28 + p) + 2))) 0 (uN (σ.1 (100 * (28 + p) + 13))) j = σ.2.2.1 26 (st + uN (σ.1 (100 * (28 + p) + 2)) + j) := by
        unfold va_cpy
        rw [if_pos (by omega), Nat.sub_zero]
      rw [e]
      exact v8 (st + uN (σ.1 (100 * (28 + p) + 2)) + j) (by omega)
    · rw [qk 67 (by decide), qk 3 (by decide)]; exact v4
    · rw [qp]; exact v5
    · rw [usE, qn]; exact v6
    · rw [qn]; exact v7
    · rw [usE, qk 26 (by decide), qk 3 (by decide)]; exact v8
    · rw [q1, y12, y13, qn]; exact pok
    · rw [q1, y3, z1 1814 (by decide)]; omega
  refine Tm_suc (fun k => by rw [f_X3_goBack]) ?_
  refine Tm_some ⟨rfl, rfl, ?_, CoP_0 (by rw [qe]), mf, byψ, by rw [q1, y2]; exact t2x, g, l, t, _, _, _, _, mn, fun _ => ⟨by rw [q1, y5]; exact w5, run'⟩⟩
  show uN (ψ.1 1903) ≤ _
  rw [q1, y3]; exact le
end CUM
