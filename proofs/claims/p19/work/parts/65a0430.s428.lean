section JnS428
/-! The class: going back to a saved run. -/
section CUM
variable {g g' g2 : Nat → Prop} {l l' l2 : List Nat} {t t' t2 : Nat} {σ σ' σ2 τ τ' φ : CS} {L : LV} {x y z i : Int32} {M M' U U' : Nat → Int32} {K K' K0 K2 K2' K3 K3' K4 K4' KB : Nat → Option Int32} {c : Ct} {B f0 u0 a T : Nat} {fs : List FrT} {u d : Nat} {r r' : List Nat} {pb nf nc sq rk : Nat}
/-- where a saved run lies -/
theorem Sv_at (mi : MIn c g l t K K2 K3 K4 B KB σ) (ha : a < uN (σ.1 2404) ∨ (a = 8 ∧ ¬ σ.1 2405 = 0)) : a < 9 ∧ sPi σ a < 9 ∧ SvR c K3 σ (sPi σ a) (uN (σ.2.2.1 27 a)) ∧ uN (σ.2.2.1 27 a) + uN (σ.1 (100 * (28 + sPi σ a) + 2)) + uN (σ.1 (100 * (28 + sPi σ a) + 13)) ≤ uN (usI σ) := by
  have s8 := SV8_of mi
  obtain ⟨m1, ⟨v1, v2, v3, v4, v5, v6, v7, v8⟩, m3, m4, ⟨⟨⟨s1, s2⟩, s3, s3'⟩, s4, s5, s6, s7⟩, m6⟩ := mi
  rcases ha with h | ⟨h, h5⟩
  · have z := s6 a h
    have us : uN (σ.1 2403) ≤ uN (usI σ) := by
      unfold usI
      by_cases h : σ.1 2405 = 0
      · rw [if_pos h]; exact Nat.le_refl _
      · have z := (s7 h).2.2
        rw [if_neg h, u_add (by rw [u_add (by omega)]; omega), u_add (by omega)]
        omega
    exact ⟨by omega, s4 a (by omega), z.1, by have := z.2.1; omega⟩
  · subst h
    have z := s7 h5
    have us : uN (usI σ) = uN (σ.1 2403) + uN (σ.1 (100 * (28 + sPi σ 8) + 2)) + uN (σ.1 (100 * (28 + sPi σ 8) + 13)) := by
      have z := z.2.2
      unfold usI
      rw [if_neg h5, u_add (by rw [u_add (by omega)]; omega), u_add (by omega)]
    refine ⟨by decide, s4 8 (by decide), by rw [z.2.1]; exact z.1, by rw [z.2.1, us]; exact Nat.le_refl _⟩
theorem c_take (mi : MIn c g l t K K2 K3 K4 (4 + tcF c 0) KH σ) (by0 : BY False σ) (h2 : L.1 2 = nI a) (ha : a < uN (σ.1 2404) ∨ (a = 8 ∧ ¬ σ.1 2405 = 0)) (le : uN (σ.1 (100 * (28 + sPi σ a) + 3)) ≤ uN (L.1 1)) (hn : uN (L.1 1) ≤ uN (σ.1 1903)) : Tm (fun k => f_X3_goBack k 1 L σ) (fun q => q.1.1 = 0 ∧ q.1.2 = L.1 1 - q.2.1.1 1903 ∧ uN (q.2.1.1 1903) ≤ uN (L.1 1) ∧ CoP σ q ∧ MFr σ q.2.1 ∧ Mst c q.2.1) := by
  obtain ⟨a9, p9, sv, us⟩ := Sv_at mi ha
  have ca : (L.1 2).toNatClampNeg = a := by rw [h2, u_cl (by rw [u_n (by omega)]; omega), u_n (by omega)]
  have ia : ¬ (L.1 2 < 0 ∨ 9 ≤ a) := by
    have z : ¬ (L.1 2 < 0 ∨ 9 ≤ (L.1 2).toNatClampNeg) := u_in (by rw [h2, u_n (by omega)]; omega) (by decide)
    rw [ca] at z; exact z
  obtain ⟨m1, ⟨v1, v2, v3, v4, v5, v6, v7, v8⟩, m3, m4, m5, m6, m7, m8, m9, m10, m11⟩ := mi
  obtain ⟨run, ⟨e7, w5⟩, ⟨x1, x2, x3, x4, x5, x6⟩, pok⟩ := sv
  generalize hp : sPi σ a = p at *
  have e0 : (0 : Int32).toNatClampNeg = 0 := rfl
  refine Tm_suc (fun k => by rw [f_X3_goBack]) ?_
  rw [ca, hp]
  refine Tm_chk ia ?_
  refine Tm_op (Tm_By (c_copyBack (p := p) p9 rfl) (fun k => kb_y_X8_copyFrom__a19__R _ _ _ _ by0)) (fun q z => ?_)
  obtain ⟨⟨z1, z2, v, z3⟩, by3⟩ := z
  generalize q.2 = ρ at *
  have y0 : ρ.1 1900 = σ.1 (100 * (28 + p) + 0) := z2 0 (by decide)
  have y1 : ρ.1 1901 = σ.1 (100 * (28 + p) + 1) := z2 1 (by decide)
  have y2 : ρ.1 1902 = σ.1 (100 * (28 + p) + 2) := z2 2 (by decide)
  have y3 : ρ.1 1903 = σ.1 (100 * (28 + p) + 3) := z2 3 (by decide)
  have y5 : ρ.1 1905 = σ.1 (100 * (28 + p) + 5) := z2 5 (by decide)
  have y8 : ρ.1 1908 = σ.1 (100 * (28 + p) + 8) := z2 8 (by decide)
  have y12 : ρ.1 1912 = σ.1 (100 * (28 + p) + 12) := z2 12 (by decide)
  have y13 : ρ.1 1913 = σ.1 (100 * (28 + p) + 13) := z2 13 (by decide)
  have y14 : ρ.1 1914 = σ.1 (100 * (28 + p) + 14) := z2 14 (by decide)
  have y15 : ρ.1 1915 = σ.1 (100 * (28 + p) + 15) := z2 15 (by decide)
  have rk : ∀ k, ρ.2.2.1 k = σ.2.2.1 k := fun k => by rw [z3]; rfl
  have rn : ∀ k, sN ρ k = sN σ k := fun k => by show ρ.2.2.2.2.1 k = _; rw [z3]; rfl
  have rp : ∀ i, sPi ρ i = sPi σ i := fun i => by show ρ.2.2.2.2.2.2 i = _; rw [z3]; rfl
  generalize hst : uN (σ.2.2.1 27 a) = st at *
  have cst : (σ.2.2.1 27 a).toNatClampNeg = st := by rw [u_cl (by omega)]; exact hst
  have csp : (σ.1 (100 * (28 + p) + 2)).toNatClampNeg = uN (σ.1 (100 * (28 + p) + 2)) := u_cl (by omega)
  have ctp : (σ.1 (100 * (28 + p) + 13)).toNatClampNeg = uN (σ.1 (100 * (28 + p) + 13)) := u_cl (by omega)
  have eS : uN (σ.2.2.1 27 a + σ.1 (100 * (28 + p) + 2)) = st + uN (σ.1 (100 * (28 + p) + 2)) := by rw [u_add (by omega), hst]
  have cS : (σ.2.2.1 27 a + σ.1 (100 * (28 + p) + 2)).toNatClampNeg = st + uN (σ.1 (100 * (28 + p) + 2)) := by rw [u_cl (by omega)]; exact eS
  refine Tm_chk ia ?_
  rw [rk 27, rk 26, rk 20, y2, e0, cst, csp, rn 26, rn 20]
  refine Tm_chk ⟨by rw [u_neg]; omega, by decide, by rw [u_neg]; omega, by omega, by omega⟩ ?_
  generalize hω : uF ρ 20 (va_cpy (σ.2.2.1 26) (σ.2.2.1 20) st 0 (uN (σ.1 (100 * (28 + p) + 2)))) = ω
  have w1 : ω.1 = ρ.1 := by rw [← hω]; rfl
  have wk : ∀ k, ¬ k = 20 → ω.2.2.1 k = σ.2.2.1 k := fun k hk => by
    rw [← hω]
    show updG ρ.2.2.1 20 (va_cpy (σ.2.2.1 26) (σ.2.2.1 20) st 0 (uN (σ.1 (100 * (28 + p) + 2)))) k = _
    rw [updG_other hk]; exact rk k
  have w20 : ω.2.2.1 20 = va_cpy (σ.2.2.1 26) (σ.2.2.1 20) st 0 (uN (σ.1 (100 * (28 + p) + 2))) := by rw [← hω]; exact uF_s ρ 20 (va_cpy (σ.2.2.1 26) (σ.2.2.1 20) st 0 (uN (σ.1 (100 * (28 + p) + 2))))
  have wn : ∀ k, sN ω k = sN σ k := fun k => by rw [← hω]; exact rn k
  refine Tm_suc (fun k => by rw [f_X3_goBack]) ?_
  rw [ca, w1, wk 27 (by decide), wk 26 (by decide), wk 21 (by decide), y2, y13, e0, cS, ctp, wn 26, wn 21]
  refine Tm_chk ia ?_
  refine Tm_chk ⟨by rw [u_neg]; omega, by decide, by rw [u_neg]; omega, by omega, by omega⟩ ?_
  have byω : BY False ω := by rw [← hω]; exact BY_F (by decide) by3
  generalize hψ : uF ω 21 (va_cpy (σ.2.2.1 26) (σ.2.2.1 21) (st + uN (σ.1 (100 * (28 + p) + 2))) 0 (uN (σ.1 (100 * (28 + p) + 13)))) = ψ
  have byψ : BY False ψ := by rw [← hψ]; exact BY_F (by decide) byω
  have q1 : ψ.1 = ρ.1 := by rw [← hψ]; exact w1
  have qk : ∀ k, ¬ (k = 20 ∨ k = 21) → ψ.2.2.1 k = σ.2.2.1 k := fun k hk => by
    rw [← hψ]
    show updG ω.2.2.1 21 (va_cpy (σ.2.2.1 26) (σ.2.2.1 21) (st + uN (σ.1 (100 * (28 + p) + 2))) 0 (uN (σ.1 (100 * (28 + p) + 13)))) k = _
    rw [updG_other (fun e => hk (Or.inr e))]; exact wk k (fun e => hk (Or.inl e))
  have q20 : ψ.2.2.1 20 = va_cpy (σ.2.2.1 26) (σ.2.2.1 20) st 0 (uN (σ.1 (100 * (28 + p) + 2))) := by rw [← hψ]; exact w20
  have q21 : ψ.2.2.1 21 = va_cpy (σ.2.2.1 26) (σ.2.2.1 21) (st + uN (σ.1 (100 * (28 + p) + 2))) 0 (uN (σ.1 (100 * (28 + p) + 13))) := by rw [← hψ]; exact uF_s ω 21 (va_cpy (σ.2.2.1 26) (σ.2.2.1 21) (st + uN (σ.1 (100 * (28 + p) + 2))) 0 (uN (σ.1 (100 * (28 + p) + 13))))
  have qn : ∀ k, sN ψ k = sN σ k := fun k => by rw [← hψ]; exact wn k
  have qe : ψ.2.2.2 = σ.2.2.2 := by
    rw [← hψ]
    show ω.2.2.2 = _
    rw [← hω]
    show ρ.2.2.2 = _
    rw [z3]; rfl
  have ql : ψ.2.1 = updW σ.2.1 1916 v := by
    rw [← hψ]
    show ω.2.1 = _
    rw [← hω]
    show ρ.2.1 = _
    rw [z3]; rfl
  have o : ∀ j, ¬ (1900 ≤ j ∧ j < 1916) → ψ.1 j = σ.1 j := fun j hj => by rw [q1]; exact z1 j hj
  have qp : ∀ i, sPi ψ i = sPi σ i := fun i => by show ψ.2.2.2.2.2.2 i = _; rw [qe]
  have mf : MFr σ ψ := ⟨fun j hj => o j (by omega), fun j hj => by rw [ql]; exact updW_other (by omega), fun k hk => by
    unfold rwM at hk
    exact ⟨qk k (by omega), qn k⟩, by rw [qe], by rw [qe]⟩
  have usE : usI ψ = usI σ := by
    unfold usI
    rw [qp, o 2405 (by decide), o 2403 (by decide), o (100 * (28 + sPi σ 8) + 2) (by omega), o (100 * (28 + sPi σ 8) + 13) (by omega)]
  have t2x := (RUN_sp run).1
  obtain ⟨ru, rd, rr, rs, rf, rm, t1, t2', t3, t4, t5, t6, t7, t8, t9, t10, t11, t12⟩ := run
  have run' : RUN c (fun j => K3 (st + j)) (uN (ψ.1 1900)) (uN (ψ.1 1901)) (uN (ψ.1 1902)) (uN (ψ.1 1908)) 0 := by
    rw [q1, y0, y1, y2, y8]
    exact ⟨ru, rd, rr, rs, rf, rm, t1, t2', t3, t4, t5, t6, t7, t8, t9, t10, t11, t12⟩
  have mn : MIn c g l t (fun j => K3 (st + j)) (fun j => K3 (st + uN (σ.1 (100 * (28 + p) + 2)) + j)) K3 K4 (4 + tcF c 0) KH ψ := by
    refine ⟨HQ_ft m1 (o 1 (by decide)) (qk 3 (by decide)) (qn 3) (qn 1) (qn 2), ⟨⟨?_, ?_, ?_⟩, ?_, ⟨?_, ?_, ?_⟩, ?_, ?_, ?_, ?_, ?_⟩, CtL_M m3 mf, ?_, SVK_g m5 (fun j h1 h2 => o j (by omega)) (qk 27 (by decide)) qp (by rw [qn]; exact Nat.le_refl _) (by rw [qn]; exact Nat.le_refl _), t12, ⟨Nat.le_refl _, by rw [q1, y2]; exact t11⟩, ?_, by rw [q1, y12]; exact x2, by rw [q1, y14]; exact x3, by rw [q1, y15]; exact x4⟩
    · rw [q1, y2, qn]; exact x5
    · rw [qn]; exact v1.2.1
    · rw [q1, y2, q20, qk 3 (by decide)]
      intro j hj
      show Gw g (va_cpy (σ.2.2.1 26) (σ.2.2.1 20) st 0 (uN (σ.1 (100 * (28 + p) + 2))) j) ∧ _
      have e : va_cpy (σ.2.2.1 26) (σ.2.2.1 20) st 0 (uN (σ.1 (100 * (28 + p) + 2))) j = σ.2.2.1 26 (st + j) := by
        unfold va_cpy
        rw [if_pos (by omega), Nat.sub_zero]
      rw [e]
      exact v8 (st + j) (by omega)
    · rw [qk 23 (by decide), qk 3 (by decide)]; exact v2
    · rw [q1, y13, qn]; exact x6
    · rw [qn]; exact v3.2.1
    · rw [q1, y13, q21, qk 3 (by decide)]
      intro j hj
      show Gw g (va_cpy (σ.2.2.1 26) (σ.2.2.1 21) (st + uN (σ.1 (100 * (28 + p) + 2))) 0 (uN (σ.1 (100 * (28 + p) + 13))) j) ∧ _
      have e : va_cpy (σ.2.2.1 26) (σ.2.2.1 21) (st + uN (σ.1 (100 * (28 + p) + 2))) 0 (uN (σ.1 (100 * (28 + p) + 13))) j = σ.2.2.1 26 (st + uN (σ.1 (100 * (28 + p) + 2)) + j) := by
        unfold va_cpy
        rw [if_pos (by omega), Nat.sub_zero]
      rw [e]
      exact v8 (st + uN (σ.1 (100 * (28 + p) + 2)) + j) (by omega)
    · rw [qk 67 (by decide), qk 3 (by decide)]; exact v4
    · rw [qp]; exact v5
    · rw [usE, qn]; exact v6
    · rw [qn]; exact v7
    · rw [usE, qk 26 (by decide), qk 3 (by decide)]; exact v8
    · rw [q1, y12, y13, qn]; exact pok
    · rw [q1, y3, z1 1814 (by decide)]; omega
  refine Tm_suc (fun k => by rw [f_X3_goBack]) ?_
  refine Tm_some ⟨rfl, rfl, ?_, CoP_0 (by rw [qe]), mf, byψ, by rw [q1, y2]; exact t2x, g, l, t, _, _, _, _, mn, fun _ => ⟨by rw [q1, y5]; exact w5, run'⟩⟩
  show uN (ψ.1 1903) ≤ _
  rw [q1, y3]; exact le
end CUM
end JnS428
section JnS429
/-! The class: its saves emptied, a variable asked for. -/
section CUN
variable {g g' g2 : Nat → Prop} {l l' l2 : List Nat} {t t' t2 : Nat} {σ σ' σ2 τ τ' φ : CS} {L : LV} {x y z i : Int32} {K K' K0 K2 K2' K3 K3' K4 K4' KB : Nat → Option Int32} {c : Ct} {B f0 u0 a T : Nat}
theorem c_global {n : Nat} (h1 : uN (L.1 1) = n) (hn : 4 + n < sN σ 20) (h2 : sN σ 20 ≤ 91000) : Tm (fun k => y_X3_global k 0 L σ) (fun q => q = (σ.2.2.1 20 (4 + n), σ)) := by
  have e4 : uN (4 : Int32) = 4 := rfl
  have ea : uN (4 + L.1 1) = 4 + n := by rw [u_add (by omega), h1, e4]
  refine Tm_suc (fun k => by rw [y_X3_global]) ?_
  refine Tm_chk (u_in (by omega) (by omega)) ?_
  rw [u_cl (by omega), ea]
  exact Tm_some rfl
theorem c_empty : Tm (fun k => y_X9_empty k 0 L σ) (fun q => (∀ j, ¬ (2403 ≤ j ∧ j ≤ 2408) → q.2.1 j = σ.1 j) ∧ q.2.2 = σ.2 ∧ q.2.1 2403 = 0 ∧ q.2.1 2404 = 0 ∧ q.2.1 2405 = 0) := by
  refine Tm_suc (fun k => by rw [y_X9_empty]) ?_
  refine Tm_oc c_drop (fun q e => ?_)
  rw [e]
  refine Tm_suc (fun k => by rw [y_X9_empty]) ?_
  refine Tm_some ⟨fun j hj => ?_, rfl, ?_, ?_, ?_⟩
  · rw [uI_o (by omega), uI_o (by omega), uI_o (by omega), uI_o (by omega), uI_o (by omega), uI_o (by omega)]
  · rw [uI_o (by decide), uI_o (by decide), uI_o (by decide), uI_o (by decide), uI_o (by decide), uI_s]
  · rw [uI_o (by decide), uI_o (by decide), uI_o (by decide), uI_o (by decide), uI_s]
  · rw [uI_o (by decide), uI_o (by decide), uI_o (by decide), uI_s]
end CUN
end JnS429
section JnS430
/-! The class: a run begun anew. -/
section CUO
variable {g g' g2 : Nat → Prop} {l l' l2 : List Nat} {t t' t2 : Nat} {σ σ' σ2 τ τ' φ : CS} {L : LV} {x y z i : Int32} {K K' K0 K2 K2' K3 K3' K4 K4' KB : Nat → Option Int32} {c : Ct} {B f0 u0 a T : Nat}
/-- the stack has room, or is given it -/
theorem c_isRoomY (hs : uN (σ.1 1902) + uN (L.1 1) ≤ 91000) (h2 : sN σ 20 ≤ 91000) : Tm (fun k => f_X3_isRoomFor k 0 L σ) (fun r => r.1 = (0, 1) ∧ r.2.1.1 = σ.1 ∧ uN (σ.1 1902) + uN (L.1 1) ≤ sN r.2.1 20 ∧ sN r.2.1 20 ≤ 91000) := by
  have ea : uN (σ.1 1902 + L.1 1) = uN (σ.1 1902) + uN (L.1 1) := u_add (by omega)
  have b1 : ∀ σ' : CS, σ'.1 = σ.1 → uN (σ.1 1902) + uN (L.1 1) ≤ sN σ' 20 → sN σ' 20 ≤ 91000 → Tm (fun k => f_X3_isRoomFor k 1 L σ') (fun r => r.1 = (0, 1) ∧ r.2.1.1 = σ.1 ∧ uN (σ.1 1902) + uN (L.1 1) ≤ sN r.2.1 20 ∧ sN r.2.1 20 ≤ 91000) := by
    intro σ' e s1 s2
    refine Tm_suc (fun k => by rw [f_X3_isRoomFor]) ?_
    rw [e]
    have c' : σ.1 1902 + L.1 1 ≤ nI (sN σ' 20) := by
      rw [u_le (by omega) (by rw [u_n (by omega)]; omega), ea, u_n (by omega)]; exact s1
    refine Tm_yes c' ?_
    refine Tm_suc (fun k => by rw [f_X3_isRoomFor]) ?_
    exact Tm_some ⟨rfl, e, s1, s2⟩
  refine Tm_suc (fun k => by rw [f_X3_isRoomFor]) ?_
  refine Tm_chk ⟨by decide, by decide, by omega⟩ ?_
  refine Tm_ite (fun c => ?_) (fun c => ?_)
  · refine Tm_adR ?_
    exact Tm_mono (b1 (uZ σ 20 91000) rfl hs (Nat.le_refl _)) (fun r q => q)
  · refine b1 σ rfl ?_ h2
    have e9 : (91000 : Int32).toNatClampNeg = 91000 := rfl
    rw [u_ltn (by rw [u_n (by omega)]; omega) (by omega), ea, u_n (by omega), e9] at c
    omega
theorem c_pushAllY (hs : uN (σ.1 1902) + uN (L.1 2) ≤ 91000) (h2 : sN σ 20 ≤ 91000) : Tm (fun k => f_X3_pushAll k 0 L σ) (fun q => uN (q.2.1.1 1902) = uN (σ.1 1902) + uN (L.1 2)) := by
  have b2 : ∀ (m : Nat) (L' : LV) (σ' : CS), uN (L'.1 3) + m = uN (L.1 2) → L'.1 2 = L.1 2 → σ'.1 = σ.1 → uN (σ.1 1902) + uN (L.1 2) ≤ sN σ' 20 → sN σ' 20 ≤ 91000 → Tm (fun k => f_X3_pushAll k 2 L' σ') (fun q => uN (q.2.1.1 1902) = uN (σ.1 1902) + uN (L.1 2)) := by
    intro m
    induction m with
    | zero =>
      intro L' σ' a3 a2 e s1 s2
      refine Tm_suc (fun k => by rw [f_X3_pushAll]) ?_
      refine Tm_yes (by rw [a2, u_le (by omega) (by omega)]; omega) ?_
      refine Tm_suc (fun k => by rw [f_X3_pushAll]) ?_
      refine Tm_suc (fun k => by rw [f_X3_pushAll]) ?_
      refine Tm_some ?_
      show uN (σ'.1 1902 + L'.1 2) = _
      rw [e, a2, u_add (by omega)]
    | succ m ih =>
      intro L' σ' a3 a2 e s1 s2
      have eu : uN (σ'.1 1902 + L'.1 3) = uN (σ.1 1902) + uN (L'.1 3) := by rw [e, u_add (by omega)]
      have e3 : uN (L'.1 3 + 1) = uN (L'.1 3) + 1 := u_inc (by omega)
      refine Tm_suc (fun k => by rw [f_X3_pushAll]) ?_
      refine Tm_no (by rw [a2, u_le (by omega) (by omega)]; omega) ?_
      refine Tm_chk (u_in (by omega) (by omega)) ?_
      refine ih _ _ ?_ a2 e s1 s2
      show uN (L'.1 3 + 1) + m = _
      omega
  refine Tm_suc (fun k => by rw [f_X3_pushAll]) ?_
  refine Tm_oxc (c_isRoomY hs h2) (fun r z => by rw [z.1]) (fun r z => ?_)
  obtain ⟨z1, z2, z3, z4⟩ := z
  rw [z1]
  refine Tm_no (by decide) ?_
  exact b2 (uN (L.1 2)) _ _ (by show uN (0 : Int32) + _ = _; rw [show uN (0 : Int32) = 0 from rfl]; omega) rfl z2 z3 z4
/-- what was laid, where it was laid -/
theorem PuO_y {n : Nat} {q : RS} (h : PuO σ x n q) (y : uN (q.2.1.1 1902) = uN (σ.1 1902) + n) : uN (q.2.1.1 1902) ≤ sN q.2.1 20 ∧ ∀ j, uN (σ.1 1902) ≤ j → j < uN (σ.1 1902) + n → q.2.1.2.2.1 20 j = x := by
  obtain ⟨h1, h2, h3, h4, h5, h6, h7⟩ := h
  rcases h7 with z | z
  · exact ⟨by rw [z.1]; exact z.2.1, z.2.2.1⟩
  · have e := z.1
    have e2 := z.2.1
    rw [e] at y ⊢
    exact ⟨e2, fun j j1 j2 => absurd j2 (by omega)⟩
/-- what a run begun anew finds -/
def RsB (c : Ct) (g : Nat → Prop) (l : List Nat) (t : Nat) (K3 K4 : Nat → Option Int32) (σ : CS) : Prop := HQ g l t σ ∧ ((1024 ≤ sN σ 20 ∧ sN σ 20 ≤ 91000) ∧ sN σ 21 ≤ 44200 ∧ uN (σ.1 1814) ≤ 10240000) ∧ Rwk g (σ.2.2.1 3) K4 (σ.2.2.1 23) 3780 ∧ Rwk g (σ.2.2.1 3) KN (σ.2.2.1 67) 27 ∧ (sPi σ 8 < 9 ∧ uN (usI σ) ≤ sN σ 26 ∧ sN σ 26 ≤ 20000 ∧ Rwk g (σ.2.2.1 3) K3 (σ.2.2.1 26) (uN (usI σ))) ∧ CtL c σ ∧ SVK c K3 σ
/-- where the program begins -/
def EnP (c : Ct) (σ : CS) (b : Bool) : Prop := tcF c 0 ≤ 200 ∧ tcS c 0 ∧ uN (σ.1 (fP b 2)) < 268435456 ∧ ∃ rk, rk ≤ RK ∧ tcD c (uN (σ.1 (fP b 2))) = some (0, 0, (bsl + tcF c 0) :: Vl (tcF c 0), rk)
theorem c_restart {b : Bool} (rs : RsB c g l t K3 K4 σ) (by0 : BY False σ) (eb : sPr σ = some b) (en : EnP c σ b) : Tm (fun k => f_X3_restart k 0 L σ) (fun q => q.1 = (0, 0) ∧ q.2.1.1 1903 = 0 ∧ CoP σ q ∧ MFr σ q.2.1 ∧ Mst c q.2.1) := by
  have main : Tm (fun k => f_X3_restart k 0 L σ) (fun q => q.1 = (0, 0) ∧ q.2.1.1 1903 = 0 ∧ CoP σ q ∧ MFr σ q.2.1 ∧ uN (q.2.1.1 1902) ≤ 10404 ∧ ∃ (g : Nat → Prop) (l : List Nat) (t : Nat) (K K2 K3 K4 : Nat → Option Int32), MIn c g l t K K2 K3 K4 (4 + tcF c 0) KH q.2.1 ∧ (q.2.1.1 1907 = 0 → uN (q.2.1.1 1905) ≤ 60000 ∧ RUN c K (uN (q.2.1.1 1900)) (uN (q.2.1.1 1901)) (uN (q.2.1.1 1902)) (uN (q.2.1.1 1908)) 0)) := by
    obtain ⟨m1, ⟨n20, n21, n14⟩, v2, v4, ⟨v5, v6, v7, v8⟩, m3, m5⟩ := rs
    obtain ⟨p1, p2, p3, rk, p4, p5⟩ := en
    have cr := (Ct_row m3 eb).2.2 0 (by decide)
    have b5 : ∀ (L' : LV) (τ : CS), τ.2 = σ.2 → (∀ j, ¬ (1900 ≤ j ∧ j < 1916) → τ.1 j = σ.1 j) → τ.1 1900 = σ.1 (fP b 2) → τ.1 1901 = 0 → τ.1 1902 = 0 → τ.1 1903 = 0 → τ.1 1905 = 0 → τ.1 1908 = 0 → τ.1 1912 = 0 → τ.1 1913 = 0 → τ.1 1914 = 0 → Tm (fun k => f_X3_restart k 5 L' τ) (fun q => q.1 = (0, 0) ∧ q.2.1.1 1903 = 0 ∧ CoP σ q ∧ MFr σ q.2.1 ∧ uN (q.2.1.1 1902) ≤ 10404 ∧ ∃ (g : Nat → Prop) (l : List Nat) (t : Nat) (K K2 K3 K4 : Nat → Option Int32), MIn c g l t K K2 K3 K4 (4 + tcF c 0) KH q.2.1 ∧ (q.2.1.1 1907 = 0 → uN (q.2.1.1 1905) ≤ 60000 ∧ RUN c K (uN (q.2.1.1 1900)) (uN (q.2.1.1 1901)) (uN (q.2.1.1 1902)) (uN (q.2.1.1 1908)) 0)) := by
      intro L' τ e2 o a0 a1 a2 a3 a5 a8 a12 a13 a14
      refine Tm_suc (fun k => by rw [f_X3_restart]) ?_
      generalize hω : uL (uI τ 1915 0) 1916 ((uI τ 1915 0).2.1 1817) = ω
      have w1 : ∀ j, ¬ j = 1915 → ω.1 j = τ.1 j := fun j hj => by rw [← hω]; exact uI_o hj
      have w15 : ω.1 1915 = 0 := by rw [← hω]; rfl
      have wl : ∀ j, ¬ j = 1916 → ω.2.1 j = σ.2.1 j := fun j hj => by
        rw [← hω]
        show updW τ.2.1 1916 _ j = _
        rw [updW_other hj, e2]
      have w2 : ω.2.2 = σ.2.2 := by rw [← hω]; show τ.2.2 = _; rw [e2]
      have wn : ∀ k, sN ω k = sN σ k := fun k => by show ω.2.2.2.2.1 k = _; rw [w2]
      have w02 : uN (ω.1 1902) = 0 := by rw [w1 1902 (by decide), a2]; rfl
      have e4 : uN (4 : Int32) = 4 := rfl
      refine Tm_oxc (Tm_and (c_pushAll (σ := ω) (L := lI (lI lZ 1 (-268435456)) 2 4) (by rw [w02]; exact Nat.zero_le _) (by rw [wn]; exact n20) (by show uN (4 : Int32) ≤ _; decide)) (c_pushAllY (σ := ω) (L := lI (lI lZ 1 (-268435456)) 2 4) (by rw [w02]; show 0 + uN (4 : Int32) ≤ _; decide) (by rw [wn]; exact n20.2))) (fun q z => by rw [z.1.1]) (fun q z => ?_)
      obtain ⟨z, zy⟩ := z
      have z0 : PuO ω (-268435456) 4 q := z
      have zy' : uN (q.2.1.1 1902) = 4 := by
        have y : uN (q.2.1.1 1902) = uN (ω.1 1902) + uN (4 : Int32) := zy
        rw [y, w02, e4]
      obtain ⟨y1, y2⟩ := PuO_y z0 (by rw [zy', w02])
      obtain ⟨z1, ⟨z2, z2'⟩, z3, z4, z5, z6, -⟩ := z0
      have ebq : sPr q.2.1 = some b := by
        show q.2.1.2.2.2.2.2.1.2.2.1 = _
        rw [z3.2.2.2.2.2, w2]; exact eb
      have r18 : q.2.1.2.2.1 (pR18 b) = σ.2.2.1 (pR18 b) := by
        rw [z3.2.2.1 (pR18 b) (by unfold pR18; cases b <;> (show ¬ _; decide)), w2]
      refine Tm_oP ebq (Tm_chk (by decide) ?_)
      have F0 : uN (q.2.1.2.2.1 (pR18 b) (0 : Int32).toNatClampNeg) = tcF c 0 := by
        rw [r18]; exact cr.2.2
      refine Tm_oxc (Tm_and (c_pushAll (σ := q.2.1) (L := lI (lI lZ 1 (-2147483648)) 2 (q.2.1.2.2.1 (pR18 b) (0 : Int32).toNatClampNeg)) y1 z5 (by show uN (q.2.1.2.2.1 (pR18 b) (0 : Int32).toNatClampNeg) ≤ _; rw [F0]; omega)) (c_pushAllY (σ := q.2.1) (L := lI (lI lZ 1 (-2147483648)) 2 (q.2.1.2.2.1 (pR18 b) (0 : Int32).toNatClampNeg)) (by show _ + uN (q.2.1.2.2.1 (pR18 b) (0 : Int32).toNatClampNeg) ≤ _; rw [F0, zy']; omega) z5.2)) (fun q2 s => by rw [s.1.1]) (fun q2 s => ?_)
      obtain ⟨s, sy⟩ := s
      have s0 : PuO q.2.1 (-2147483648) (tcF c 0) q2 := by rw [← F0]; exact s
      have sy' : uN (q2.2.1.1 1902) = 4 + tcF c 0 := by
        have y : uN (q2.2.1.1 1902) = uN (q.2.1.1 1902) + uN (q.2.1.2.2.1 (pR18 b) (0 : Int32).toNatClampNeg) := sy
        rw [y, zy', F0]
      obtain ⟨x1, x2⟩ := PuO_y s0 (by rw [sy', zy'])
      obtain ⟨s1, ⟨s2, s2'⟩, s3, s4, s5, s6, -⟩ := s0
      have e5 : q2.2.1.1 1905 = ω.1 1905 := by
        have f1 : q.2.1.1 1905 = ω.1 1905 := by
          rcases z.2.2.2.2.2.2 with y | y
          · exact y.2.2.2.2.2
          · exact y.2.2.2.1
        rcases s.2.2.2.2.2.2 with y | y
        · exact y.2.2.2.2.2.trans f1
        · exact y.2.2.2.1.trans f1
      have sm := Sm_t z3 s3
      generalize q2.2.1 = ψ at *
      have ej : ∀ j, ¬ (j = 1 ∨ j = 404 ∨ j = 1203 ∨ j = 1812 ∨ j = 1813 ∨ j = 1902 ∨ j = 1905) → ψ.1 j = ω.1 j := fun j hj => sm.1 j hj
      have e5' : ψ.1 1905 = 0 := by
        rw [e5, w1 1905 (by decide), a5]
      have f03 : ψ.1 1903 = 0 := by rw [ej 1903 (by decide), w1 1903 (by decide), a3]
      have f12 : ψ.1 1912 = 0 := by rw [ej 1912 (by decide), w1 1912 (by decide), a12]
      have f13 : ψ.1 1913 = 0 := by rw [ej 1913 (by decide), w1 1913 (by decide), a13]
      have f14 : ψ.1 1914 = 0 := by rw [ej 1914 (by decide), w1 1914 (by decide), a14]
      have f15 : ψ.1 1915 = 0 := by rw [ej 1915 (by decide), w15]
      have f00 : ψ.1 1900 = σ.1 (fP b 2) := by rw [ej 1900 (by decide), w1 1900 (by decide), a0]
      have f01 : ψ.1 1901 = 0 := by rw [ej 1901 (by decide), w1 1901 (by decide), a1]
      have f08 : ψ.1 1908 = 0 := by rw [ej 1908 (by decide), w1 1908 (by decide), a8]
      have rk' : ∀ k, ¬ (k = 3 ∨ (5 ≤ k ∧ k ≤ 11) ∨ k = 13 ∨ (15 ≤ k ∧ k ≤ 17) ∨ k = 20) → ψ.2.2.1 k = σ.2.2.1 k := fun k hk => by rw [sm.2.2.1 k hk, w2]
      have r3 : ψ.2.2.1 3 = σ.2.2.1 3 := by rw [s4.2, z4.2, w2]
      have nk : ∀ k, ¬ k = 20 → sN ψ k = sN σ k := fun k hk => by rw [sm.2.2.2.1.1 k hk, wn]
      have n20' : sN σ 20 ≤ sN ψ 20 := by rw [← wn]; exact sm.2.2.2.1.2
      have pe : ψ.2.2.2.2.2 = σ.2.2.2.2.2 := by rw [sm.2.2.2.2.2, w2]
      have pp : ∀ i, sPi ψ i = sPi σ i := fun i => by show ψ.2.2.2.2.2.2 i = _; rw [pe]
      have oj : ∀ j, ¬ (j = 1 ∨ j = 404 ∨ j = 1203 ∨ j = 1812 ∨ j = 1813 ∨ (1900 ≤ j ∧ j < 1916)) → ψ.1 j = σ.1 j := fun j hj => by rw [ej j (by omega), w1 j (by omega), o j (by omega)]
      have usE : usI ψ = usI σ := by
        unfold usI
        rw [pp, oj 2405 (by decide), oj 2403 (by decide), oj (100 * (28 + sPi σ 8) + 2) (by omega), oj (100 * (28 + sPi σ 8) + 13) (by omega)]
      have mf : MFr σ ψ := ⟨fun j hj => oj j (by omega), fun j hj => by rw [sm.2.1, wl j (by omega)], fun k hk => by
        unfold rwM at hk
        exact ⟨rk' k (by omega), nk k (by omega)⟩, by rw [sm.2.2.2.2.1, w2], by rw [pe]⟩
      have u0' : uN (0 : Int32) = 0 := rfl
      have mn : MIn c g l t KH KN K3 K4 (4 + tcF c 0) KH ψ := by
        refine ⟨HQ_ft m1 (by rw [s4.1, z4.1, w1 1 (by decide), o 1 (by decide)]) r3 (nk 3 (by decide)) (nk 1 (by decide)) (nk 2 (by decide)), ⟨⟨x1, s5, ?_⟩, ?_, ⟨?_, ?_, ?_⟩, ?_, ?_, ?_, ?_, ?_⟩, CtL_M m3 mf, ?_, SVK_g m5 (fun j h1 h2 => oj j (by omega)) (rk' 27 (by decide)) pp n20' (by rw [nk 21 (by decide)]; exact Nat.le_refl _), fun _ _ => rfl, ⟨Nat.le_refl _, by rw [sy']; exact Nat.le_refl _⟩, ?_, ?_, ?_, ?_⟩
        · rw [sy']
          intro j hj
          by_cases j4 : j < 4
          · have e : ψ.2.2.1 20 j = -268435456 := by
              rw [s6 j (by rw [zy']; exact j4)]
              exact y2 j (by rw [w02]; exact Nat.zero_le _) (by rw [w02]; omega)
            rw [e, KH_c j4]
            exact Rwc (Gw_rt g)
          · have e : ψ.2.2.1 20 j = -2147483648 := x2 j (by rw [zy']; omega) (by rw [zy']; exact hj)
            rw [e, KH_n (by omega)]
            exact Rwn (Gv_om g)
        · rw [rk' 23 (by decide), r3]; exact v2
        · rw [f13, u0']; exact Nat.zero_le _
        · rw [nk 21 (by decide)]; exact n21
        · rw [f13, u0']; exact fun j hj => absurd hj (Nat.not_lt_zero j)
        · rw [rk' 67 (by decide), r3]; exact v4
        · rw [pp]; exact v5
        · rw [usE, nk 26 (by decide)]; exact v6
        · rw [nk 26 (by decide)]; exact v7
        · rw [usE, rk' 26 (by decide), r3]; exact v8
        · rw [f12, u0']; exact trivial
        · rw [f03, u0', oj 1814 (by decide)]; omega
        · rw [f12, u0']; exact Nat.zero_le _
        · rw [f14, u0']; exact Nat.zero_le _
        · rw [f15, u0']; exact Nat.zero_le _
      refine Tm_some ⟨rfl, f03, ⟨?_, ?_⟩, mf, by show uN (ψ.1 1902) ≤ _; rw [sy']; omega, g, l, t, KH, KN, K3, K4, mn, fun _ => ⟨by show uN (ψ.1 1905) ≤ _; rw [e5', u0']; exact Nat.zero_le _, ?_⟩⟩
      · have ph := Ph_s (σ := σ) (σ' := ω) (by rw [w2])
        show q.2.2.1 + (q2.2.2.1 + 0) + PhC ψ ≤ _
        omega
      · have ph := Ph_s (σ := σ) (σ' := ω) (by rw [w2])
        show q.2.2.2 + (q2.2.2.2 + 0) + PhS ψ ≤ _
        omega
      · show RUN c KH (uN (ψ.1 1900)) (uN (ψ.1 1901)) (uN (ψ.1 1902)) (uN (ψ.1 1908)) 0
        rw [f00, f01, sy', f08, u0']
        exact ⟨0, tcF c 0, rk, 0, [], Vl (tcF c 0), ⟨p5, Vl_b _ (by omega)⟩, p4, SL_mkV (by omega) (by omega) (fun p h1 h2 => KH_n (by omega)), p1, Nat.le_refl _, p2, by decide, ⟨rfl, rfl, rfl, rfl, rfl, rfl⟩, by decide, p3, Nat.le_refl _, fun _ _ => rfl⟩
    refine Tm_suc (fun k => by rw [f_X3_restart]) ?_
    refine Tm_oP eb ?_
    refine Tm_suc (fun k => by rw [f_X3_restart]) ?_
    refine Tm_suc (fun k => by rw [f_X3_restart]) ?_
    refine Tm_suc (fun k => by rw [f_X3_restart]) ?_
    refine Tm_oP (b := b) eb (Tm_chk (by decide) ?_)
    refine Tm_suc (fun k => by rw [f_X3_restart]) ?_
    refine b5 _ _ rfl (fun j hj => ?_) rfl rfl rfl rfl rfl rfl rfl rfl rfl
    rw [uI_o (by omega), uI_o (by omega), uI_o (by omega), uI_o (by omega), uI_o (by omega), uI_o (by omega), uI_o (by omega), uI_o (by omega), uI_o (by omega), uI_o (by omega), uI_o (by omega), uI_o (by omega), uI_o (by omega), uI_o (by omega), uI_o (by omega)]
  exact Tm_mono (Tm_Bf main (fun k => kb_f_X3_restart _ _ _ _ by0)) (fun q z => ⟨z.1.1, z.1.2.1, z.1.2.2.1, z.1.2.2.2.1, z.2, z.1.2.2.2.2⟩)
theorem RsB_M (mi : MIn c g l t K K2 K3 K4 B KB σ) : RsB c g l t K3 K4 σ := by
  obtain ⟨m1, ⟨v1, v2, v3, v4, v5⟩, m3, m4, m5, m6, m7, m8, m9⟩ := mi
  exact ⟨m1, ⟨v1.2.1, v3.2.1, by omega⟩, v2, v4, v5, m3, m5⟩
theorem c_goBack {b : Bool} (ms : Mst c σ) (eb : sPr σ = some b) (en : EnP c σ b) (hn : uN (L.1 1) ≤ uN (σ.1 1903)) : Tm (fun k => f_X3_goBack k 0 L σ) (fun q => q.1.1 = 0 ∧ uN q.1.2 + uN (q.2.1.1 1903) ≤ uN (L.1 1) ∧ CoP σ q ∧ MFr σ q.2.1 ∧ Mst c q.2.1) := by
  obtain ⟨by0, sp0, g, l, t, K, K2, K3, K4, mi, rn⟩ := ms
  have m8 := mi.2.2.2.2.2.2.2.1
  refine Tm_suc (fun k => by rw [f_X3_goBack]) ?_
  refine Tm_op (c_newest (L := lI lZ 1 (L.1 1)) mi.2.2.2.2.1 (by show uN (L.1 1) < _; omega)) (fun q z => ?_)
  obtain ⟨z1, z2⟩ := z
  rw [z1]
  have z2' : NwA σ (uN (L.1 1)) q.1 := z2
  refine Tm_ite (fun e => ?_) (fun e => ?_)
  · refine Tm_oxc (c_restart (RsB_M mi) by0 eb en) (fun r s => by rw [s.1]) (fun r s => ?_)
    obtain ⟨s1, s2, ⟨s3, s3'⟩, s4, s5⟩ := s
    refine Tm_some ⟨rfl, ?_, ⟨by show r.2.2.1 + 0 + PhC r.2.1 ≤ _; omega, by show r.2.2.2 + 0 + PhS r.2.1 ≤ _; omega⟩, s4, s5⟩
    show uN (L.1 1) + uN (r.2.1.1 1903) ≤ uN (L.1 1)
    rw [s2]
    exact Nat.le_refl _
  · rcases z2' with y | ⟨a, y1, y2, y3⟩
    · exact absurd y e
    · refine Tm_mono (c_take mi by0 (L := lI L 2 q.1) (a := a) y1 y2 y3 hn) (fun r s => ?_)
      obtain ⟨s1, s2, s3, s4, s5, s6⟩ := s
      have s2' : r.1.2 = L.1 1 - r.2.1.1 1903 := s2
      have s3' : uN (r.2.1.1 1903) ≤ uN (L.1 1) := s3
      refine ⟨s1, ?_, s4, s5, s6⟩
      rw [s2', u_sub s3']
      omega
/-- between the house's calls, with a run or without -/
def Hmb (g : Nat → Prop) (l : List Nat) (t : Nat) (K4 : Nat → Option Int32) (σ : CS) : Prop := HQ g l t σ ∧ ((1024 ≤ sN σ 20 ∧ sN σ 20 ≤ 91000) ∧ sN σ 21 ≤ 44200 ∧ uN (σ.1 1814) ≤ 10240000) ∧ Rwk g (σ.2.2.1 3) K4 (σ.2.2.1 23) 3780 ∧ Rwk g (σ.2.2.1 3) KN (σ.2.2.1 67) 27 ∧ sN σ 26 ≤ 20000 ∧ (∀ i, i < 9 → sPi σ i < 9) ∧ ∀ i j, i < 9 → j < 9 → sPi σ i = sPi σ j → i = j
theorem Hmb_M (mi : MIn c g l t K K2 K3 K4 B KB σ) : Hmb g l t K4 σ := by
  obtain ⟨m1, ⟨v1, v2, v3, v4, v5, v6, v7, v8⟩, m3, m4, m5, m6, m7, m8, m9⟩ := mi
  exact ⟨m1, ⟨v1.2.1, v3.2.1, by omega⟩, v2, v4, v7, m5.2.1, m5.2.2.1⟩
theorem c_open {b : Bool} (hb : Hmb g l t K4 σ) (by0 : BY False σ) (h1 : L.2.2.1 1 = b) (ct : CtL c (uPr σ (some b))) (en : EnP c σ b) : Tm (fun k => f_X3_open__P k 0 L σ) (fun q => q.1 = (0, 0) ∧ q.2.1.1 1903 = 0 ∧ CoP σ q ∧ MFr (uL (uPr σ (some b)) 1817 (L.2.1 2)) q.2.1 ∧ Mst c q.2.1) := by
  obtain ⟨m1, ⟨n20, n21, n14⟩, v2, v4, v7, p9, pi⟩ := hb
  refine Tm_suc (fun k => by rw [f_X3_open__P]) ?_
  rw [h1]
  generalize hω : uL (uPr σ (some b)) 1817 (L.2.1 2) = ω
  have w1 : ω.1 = σ.1 := by rw [← hω]; rfl
  have wk : ω.2.2.1 = σ.2.2.1 := by rw [← hω]; rfl
  have wn : ∀ k, sN ω k = sN σ k := fun k => by rw [← hω]; rfl
  have wp : ∀ i, sPi ω i = sPi σ i := fun i => by rw [← hω]; rfl
  have we : sPr ω = some b := by rw [← hω]; rfl
  have wc : CtL c ω := by
    rw [← hω]
    exact ct
  have wb : BY False ω := by rw [← hω]; exact BY_L (BY_uPr by0)
  have w5 : ω.2.2.2.2.1 = σ.2.2.2.2.1 := by rw [← hω]; rfl
  refine Tm_op (Tm_By (c_empty (L := lZ) (σ := ω)) (fun k => kb_y_X9_empty _ _ _ _ wb)) (fun q z => ?_)
  obtain ⟨⟨z1, z2, z3, z4, z5⟩, byq⟩ := z
  generalize q.2 = τ at *
  have tn : ∀ k, sN τ k = sN σ k := fun k => by show τ.2.2.2.2.1 k = _; rw [z2]; exact wn k
  have tp : ∀ i, sPi τ i = sPi σ i := fun i => by show τ.2.2.2.2.2.2 i = _; rw [z2]; exact wp i
  have tk : ∀ k, τ.2.2.1 k = σ.2.2.1 k := fun k => by rw [z2, wk]
  have tj : ∀ j, ¬ (2403 ≤ j ∧ j ≤ 2408) → τ.1 j = σ.1 j := fun j hj => by rw [z1 j hj, w1]
  have us : uN (usI τ) = 0 := by
    unfold usI
    rw [if_pos z5, z3]; rfl
  have u0' : uN (0 : Int32) = 0 := rfl
  have te : sPr τ = some b := by
    show τ.2.2.2.2.2.1.2.2.1 = _
    rw [z2]; exact we
  have mft : MFr ω τ := ⟨fun j hj => z1 j (by omega), fun j hj => by rw [z2], fun k hk => ⟨by rw [z2], by show τ.2.2.2.2.1 k = _; rw [z2]⟩, by rw [z2], by rw [z2]⟩
  have rs : RsB c g l t KN K4 τ := by
    refine ⟨HQ_ft m1 (tj 1 (by decide)) (tk 3) (tn 3) (tn 1) (tn 2), ⟨by rw [tn]; exact n20, by rw [tn]; exact n21, by rw [tj 1814 (by decide)]; exact n14⟩, by rw [tk, tk]; exact v2, by rw [tk, tk]; exact v4, ⟨by rw [tp]; exact p9 8 (by decide), by rw [us]; exact Nat.zero_le _, by rw [tn]; exact v7, by rw [us]; exact fun j hj => absurd hj (Nat.not_lt_zero j)⟩, CtL_M wc mft, ⟨⟨⟨by rw [z4, u0']; exact Nat.zero_le _, by rw [z3, u0']; exact Nat.zero_le _⟩, fun i hi => ?_, fun hn => absurd z5 hn⟩, fun i hi => by rw [tp]; exact p9 i hi, fun i j hi hj e => ?_, fun i hi => ?_, fun hn => absurd z5 hn⟩⟩
    · rw [z4, u0'] at hi; exact absurd hi (Nat.not_lt_zero i)
    · rw [tp, tp] at e; exact pi i j hi hj e
    · rw [z4, u0'] at hi; exact absurd hi (Nat.not_lt_zero i)
  have fe : τ.1 (fP b 2) = σ.1 (fP b 2) := tj _ (by unfold fP; cases b <;> (show ¬ _; decide))
  refine Tm_oxc (c_restart rs byq te (by unfold EnP; rw [fe]; exact en)) (fun r s => by rw [s.1]) (fun r s => ?_)
  obtain ⟨s1, s2, ⟨s3, s3'⟩, s4, s5⟩ := s
  have ph := Ph_s (σ := σ) (σ' := τ) (by rw [z2, w5])
  exact Tm_some ⟨rfl, s2, ⟨by show r.2.2.1 + 0 + PhC r.2.1 ≤ _; omega, by show r.2.2.2 + 0 + PhS r.2.1 ≤ _; omega⟩, MFr_t mft s4, s5⟩
end CUO
end JnS430
section JnS431
/-! The class: an exp that is asked. -/
section CUP
variable {g g' g2 : Nat → Prop} {l l' l2 : List Nat} {t t' t2 : Nat} {σ σ' σ2 τ τ' φ : CS} {L : LV} {x y z i : Int32} {K K' K0 K2 K2' K3 K3' K4 K4' KB : Nat → Option Int32} {c : Ct} {B f0 u0 a T : Nat}
/-- a run stands, over this heap -/
def MsG (c : Ct) (g : Nat → Prop) (l : List Nat) (t : Nat) (σ : CS) : Prop := BY False σ ∧ uN (σ.1 1902) ≤ 10404 ∧ ∃ (K K2 K3 K4 : Nat → Option Int32), MIn c g l t K K2 K3 K4 (4 + tcF c 0) KH σ ∧ (σ.1 1907 = 0 → uN (σ.1 1905) ≤ 60000 ∧ RUN c K (uN (σ.1 1900)) (uN (σ.1 1901)) (uN (σ.1 1902)) (uN (σ.1 1908)) 0)
theorem MsG_s (h : MsG c g l t σ) : Mst c σ := by
  obtain ⟨h1, h2, K, K2, K3, K4, h3⟩ := h
  exact ⟨h1, h2, g, l, t, K, K2, K3, K4, h3⟩
theorem MsG_o (h : Mst c σ) : ∃ g l t, MsG c g l t σ := by
  obtain ⟨h1, h2, g, l, t, K, K2, K3, K4, h3⟩ := h
  exact ⟨g, l, t, h1, h2, K, K2, K3, K4, h3⟩
/-- the run set back where it stood -/
theorem MIn_ev (mi : MIn c g l t K K2 K3 K4 B KB σ) (o : ∀ j, ¬ (j = 1819 ∨ j = 1900 ∨ j = 1901 ∨ j = 1902 ∨ j = 1905) → σ'.1 j = σ.1 j) (ol : ∀ j, ¬ j = 1916 → σ'.2.1 j = σ.2.1 j) (e2 : σ'.2.2 = σ.2.2) (h2 : uN (σ'.1 1902) ≤ uN (σ.1 1902)) (hb : 4 + tcF c 0 ≤ uN (σ'.1 1902)) (kh : ∀ j, j < 4 + tcF c 0 → K j = KH j) : MIn c g l t K K2 K3 K4 (4 + tcF c 0) KH σ' ∧ MFr σ σ' := by
  obtain ⟨m1, ⟨v1, v2, v3, v4, v5, v6, v7, v8⟩, m3, m4, m5, m6, m7, m8, m9, m10, m11⟩ := mi
  have qn : ∀ k, sN σ' k = sN σ k := fun k => by show σ'.2.2.2.2.1 k = _; rw [e2]
  have qp : ∀ i, sPi σ' i = sPi σ i := fun i => by show σ'.2.2.2.2.2.2 i = _; rw [e2]
  have mf : MFr σ σ' := ⟨fun j hj => o j (by omega), fun j hj => ol j (by omega), fun k hk => ⟨by rw [e2], qn k⟩, by rw [e2], by rw [e2]⟩
  have usE : usI σ' = usI σ := by
    unfold usI
    rw [qp, o 2405 (by decide), o 2403 (by decide), o (100 * (28 + sPi σ 8) + 2) (by omega), o (100 * (28 + sPi σ 8) + 13) (by omega)]
  refine ⟨⟨HQ_ft m1 (o 1 (by decide)) (by rw [e2]) (qn 3) (qn 1) (qn 2), ⟨⟨?_, ?_, ?_⟩, ?_, ⟨?_, ?_, ?_⟩, ?_, ?_, ?_, ?_, ?_⟩, CtL_M m3 mf, ?_, SVK_g m5 (fun j h1 h2 => o j (by omega)) (by rw [e2]) qp (by rw [qn]; exact Nat.le_refl _) (by rw [qn]; exact Nat.le_refl _), kh, ⟨Nat.le_refl _, hb⟩, by rw [o 1903 (by decide), o 1814 (by decide)]; exact m8, by rw [o 1912 (by decide)]; exact m9, by rw [o 1914 (by decide)]; exact m10, by rw [o 1915 (by decide)]; exact m11⟩, mf⟩
  · rw [qn]; have := v1.1; omega
  · rw [qn]; exact v1.2.1
  · rw [e2]; exact fun j hj => v1.2.2 j (by omega)
  · rw [e2]; exact v2
  · rw [o 1913 (by decide), qn]; exact v3.1
  · rw [qn]; exact v3.2.1
  · rw [o 1913 (by decide), e2]; exact v3.2.2
  · rw [e2]; exact v4
  · rw [qp]; exact v5
  · rw [usE, qn]; exact v6
  · rw [qn]; exact v7
  · rw [usE, e2]; exact v8
  · rw [o 1912 (by decide), o 1913 (by decide), qn]; exact m4
/-- where an exp that is asked begins -/
def EnV (c : Ct) (pc : Nat) : Prop := tcF c 41 = 0 ∧ ∃ rk, rk ≤ RK ∧ tcD c pc = some (41, 0, [bsl], rk)
theorem c_evaluate (ms : Mst c σ) (ck : CkA c) (en : EnV c (uN (L.1 1))) : Tm (fun k => f_X3_evaluate k 0 L σ) (fun q => q.1.1 = 0 ∧ q.2.1.1 1903 = σ.1 1903 ∧ CoP σ q ∧ MFr σ q.2.1 ∧ ∃ g l t, MsG c g l t q.2.1 ∧ Gw g q.1.2) := by
  obtain ⟨by0, sp0, g, l, t, K, K2, K3, K4, mi0, rn⟩ := ms
  obtain ⟨f41, rk, rk1, tD⟩ := en
  have kh := mi0.2.2.2.2.2.1
  have spB := mi0.2.2.2.2.2.2.1.2
  have st := mi0.2.1.1
  have mi : MIn c g l t K K2 K3 K4 (uN (σ.1 1902)) K σ := ⟨mi0.1, mi0.2.1, mi0.2.2.1, mi0.2.2.2.1, mi0.2.2.2.2.1, fun _ _ => rfl, ⟨spB, Nat.le_refl _⟩, mi0.2.2.2.2.2.2.2⟩
  have ns : ¬ tcS c 41 := fun z => z.2 rfl
  have e4 : uN (4 : Int32) = 4 := rfl
  have b2 : ∀ (L' : LV) (ρ : CS) (n1 n2 : Nat) (g' : Nat → Prop) (l' : List Nat) (t' : Nat) (K' K2' K3' K4' : Nat → Option Int32), L'.1 2 = σ.1 1900 → L'.1 3 = σ.1 1901 → L'.1 4 = σ.1 1902 → L'.1 5 = σ.1 1905 → Gw g' (L'.1 8) → MIn c g' l' t' K' K2' K3' K4' (uN (σ.1 1902)) K ρ → MFr σ ρ → BY False ρ → (∀ j, 1903 ≤ j → j < 1914 → ¬ j = 1905 → ρ.1 j = σ.1 j) → (n1 + PhC ρ ≤ PhC σ ∧ n2 + PhS ρ ≤ PhS σ) → Tm (fun k => f_X3_evaluate k 2 L' ρ) (fun q => q.1.1 = 0 ∧ q.2.1.1 1903 = σ.1 1903 ∧ CoP σ (q.1, q.2.1, (n1 + q.2.2.1, n2 + q.2.2.2)) ∧ MFr σ q.2.1 ∧ ∃ g l t, MsG c g l t q.2.1 ∧ Gw g q.1.2) := by
    intro L' ρ n1 n2 g' l' t' K' K2' K3' K4' l2 l3 l4 l5 hg m mf by3 ev co
    refine Tm_suc (fun k => by rw [f_X3_evaluate]) ?_
    refine Tm_suc (fun k => by rw [f_X3_evaluate]) ?_
    refine Tm_suc (fun k => by rw [f_X3_evaluate]) ?_
    rw [l2, l3, l4, l5]
    generalize hψ : uL (uI (uI (uI (uI (uI ρ 1819 (ρ.1 1905)) 1900 (σ.1 1900)) 1901 (σ.1 1901)) 1902 (σ.1 1902)) 1905 (σ.1 1905)) 1916 (L'.2.1 6) = ψ
    have o : ∀ j, ¬ (j = 1819 ∨ j = 1900 ∨ j = 1901 ∨ j = 1902 ∨ j = 1905) → ψ.1 j = ρ.1 j := fun j hj => by
      rw [← hψ]
      show (uI (uI (uI (uI (uI ρ 1819 (ρ.1 1905)) 1900 (σ.1 1900)) 1901 (σ.1 1901)) 1902 (σ.1 1902)) 1905 (σ.1 1905)).1 j = _
      rw [uI_o (by omega), uI_o (by omega), uI_o (by omega), uI_o (by omega), uI_o (by omega)]
    have o0 : ψ.1 1900 = σ.1 1900 := by rw [← hψ]; rfl
    have o1 : ψ.1 1901 = σ.1 1901 := by rw [← hψ]; rfl
    have o2 : ψ.1 1902 = σ.1 1902 := by rw [← hψ]; rfl
    have o5 : ψ.1 1905 = σ.1 1905 := by rw [← hψ]; rfl
    have ol : ∀ j, ¬ j = 1916 → ψ.2.1 j = ρ.2.1 j := fun j hj => by
      rw [← hψ]
      show updW ρ.2.1 1916 _ j = _
      rw [updW_other hj]
    have oe : ψ.2.2 = ρ.2.2 := by rw [← hψ]; rfl
    have bp : BY False ψ := by
      rw [← hψ]
      exact BY_L (BY_I (by decide) (BY_I (by decide) (BY_I (by decide) (BY_I (by decide) (BY_I (by decide) by3)))))
    have kb := m.2.2.2.2.2.1
    have mE := MIn_ev (σ' := ψ) m o ol oe (by rw [o2]; exact m.2.2.2.2.2.2.1.2) (by rw [o2]; exact spB) (fun j hj => by rw [kb j (by omega)]; exact kh j hj)
    have ph := Ph_s (σ := ρ) (σ' := ψ) (by rw [oe])
    refine Tm_some ⟨rfl, ?_, ⟨?_, ?_⟩, MFr_t mf mE.2, g', l', t', ⟨bp, ?_, K', K2', K3', K4', mE.1, fun c7 => ?_⟩, hg⟩
    · show ψ.1 1903 = _
      rw [o 1903 (by decide)]; exact ev 1903 (by decide) (by decide) (by decide)
    · show n1 + 0 + PhC ψ ≤ _
      omega
    · show n2 + 0 + PhS ψ ≤ _
      omega
    · show uN (ψ.1 1902) ≤ _
      rw [o2]; exact sp0
    · have c7' : ψ.1 1907 = 0 := c7
      rw [o 1907 (by decide), ev 1907 (by decide) (by decide) (by decide)] at c7'
      obtain ⟨w5, run⟩ := rn c7'
      show uN (ψ.1 1905) ≤ 60000 ∧ RUN c K' (uN (ψ.1 1900)) (uN (ψ.1 1901)) (uN (ψ.1 1902)) (uN (ψ.1 1908)) 0
      rw [o0, o1, o2, o5, o 1908 (by decide), ev 1908 (by decide) (by decide) (by decide)]
      exact ⟨w5, RUN_eq run (fun p hp => kb p hp)⟩
  refine Tm_suc (fun k => by rw [f_X3_evaluate]) ?_
  generalize hτ : uI (uI (uI σ 1901 (σ.1 1902)) 1900 (L.1 1)) 1905 0 = τ
  have a : ∀ j, ¬ (j = 1900 ∨ j = 1901 ∨ j = 1905) → τ.1 j = σ.1 j := fun j hj => by rw [← hτ, uI_o (by omega), uI_o (by omega), uI_o (by omega)]
  have a0 : τ.1 1900 = L.1 1 := by rw [← hτ]; rfl
  have a1 : τ.1 1901 = σ.1 1902 := by rw [← hτ]; rfl
  have a5 : τ.1 1905 = 0 := by rw [← hτ]; rfl
  have ae : τ.2 = σ.2 := by rw [← hτ]; rfl
  have byt : BY False τ := by rw [← hτ]; exact BY_I (by decide) (BY_I (by decide) (BY_I (by decide) by0))
  have mt := MIn_fl (σ' := τ) mi ae (fun j hj => a j (by omega)) (by rw [a 1902 (by decide)]; exact Nat.le_refl _) (by rw [a 1902 (by decide)]; exact Nat.le_refl _)
  have st' := mt.1.2.1.1
  have pht := Ph_s (σ := σ) (σ' := τ) (by rw [ae])
  refine Tm_suc (fun k => by rw [f_X3_evaluate]) ?_
  refine Tm_oxc (Tm_and (Tm_Bf (c_pushAll (σ := τ) (L := lI (lI lZ 1 (-268435456)) 2 4) st'.1 st'.2.1 (by show uN (4 : Int32) ≤ _; decide)) (fun k => kb_f_X3_pushAll _ _ _ _ byt)) (c_pushAllY (σ := τ) (L := lI (lI lZ 1 (-268435456)) 2 4) (by rw [a 1902 (by decide)]; show _ + uN (4 : Int32) ≤ _; rw [e4]; omega) st'.2.1.2)) (fun q z => by rw [z.1.1.1]) (fun q z => ?_)
  obtain ⟨⟨z, byq⟩, zy⟩ := z
  have z0 : PuO τ (-268435456) 4 q := z
  have zy' : uN (q.2.1.1 1902) = uN (σ.1 1902) + 4 := by
    have y : uN (q.2.1.1 1902) = uN (τ.1 1902) + uN (4 : Int32) := zy
    rw [y, a 1902 (by decide), e4]
  have mp := pu_C mt.1 (Gw_rt g) z0
  obtain ⟨z1, ⟨z2, z2'⟩, z3, z4, z5, z6, z7⟩ := z0
  have q5 : q.2.1.1 1905 = 0 := by
    rcases z7 with y | y
    · rw [y.2.2.2.2.2, a5]
    · rw [y.2.2.2.1, a5]
  have qe : ∀ j, ¬ (j = 1 ∨ j = 404 ∨ j = 1203 ∨ j = 1812 ∨ j = 1813 ∨ j = 1902 ∨ j = 1905) → q.2.1.1 j = τ.1 j := fun j hj => z3.1 j hj
  have K1e : Kw K (uN (τ.1 1902)) 4 (some mkC) = Kw K (uN (σ.1 1902)) 4 (some mkC) := by rw [a 1902 (by decide)]
  have mp1 := mp.1
  rw [K1e] at mp1
  have hl := mp1.2.2.2.2.2.2.2.1
  have ex := c_execute (f0 := uN (σ.1 1902)) (u0 := 41) (L := lZ) mp1 byq (fun y => absurd y ns) ck ck.2.1 (fun y => absurd y ns) (Or.inl ⟨by omega, kh⟩) (fun ρ e e15 e11 => by
    have f1 : ρ.1 1901 = σ.1 1902 := by rw [e 1901 (by decide), qe 1901 (by decide), a1]
    have f2 : uN (ρ.1 1902) = uN (σ.1 1902) + 4 := by rw [e 1902 (by decide)]; exact zy'
    have f0 : ρ.1 1900 = L.1 1 := by rw [e 1900 (by decide), qe 1900 (by decide), a0]
    have f5 : ρ.1 1905 = 0 := by rw [e 1905 (by decide)]; exact q5
    have ty : TyS c (Kw K (uN (σ.1 1902)) 4 (some mkC)) K4 (uN (σ.1 1902)) 41 ρ [] 41 0 [bsl] 0 0 0 0 := by
      refine ⟨?_, ⟨by rw [f1], rfl, rfl, rfl, rfl, rfl⟩, by rw [f41]; exact Nat.zero_le _, ⟨by rw [e15]; rfl, by decide⟩, by rw [e11]; rfl, fun y => absurd y ns, by decide, by decide, PaM_0 (w := 0) (ms := []) (fun i hi => absurd hi List.not_mem_nil)⟩
      rw [f1, f2]
      exact SL_mkV (w := 0) (by decide) (by omega) (fun p h1 h2 => absurd h2 (by omega))
    refine ⟨qv 0 0 rk, ⟨by rw [f5]; decide, 41, 0, [bsl], rk, [], 0, 0, 0, 0, Or.inl ⟨ty, by rw [f0]; exact tD, rfl⟩⟩, ?_⟩
    exact mu_lt (by rw [e 1814 (by decide)]; omega) (qv_lt (rk := rk) ty (by omega)))
  refine Tm_oxc ex (fun r s => by rw [s.1]) (fun q3 s => ?_)
  obtain ⟨s1, ⟨c1, c2⟩, s2, s3, s4, g', l', t', K', K2', K3', K4', m', s6⟩ := s
  have s7 := (s6.resolve_left (fun y => by obtain ⟨_, _, _, y⟩ := y; exact absurd y (Nat.not_lt_zero _))).2
  have mf3 : MFr σ q3.2.1 := MFr_t (MFr_t (Md_M mt.2) (Md_M mp.2)) s2
  have ev3 : ∀ j, 1903 ≤ j → j < 1914 → ¬ j = 1905 → q3.2.1.1 j = σ.1 j := fun j j1 j2 j3 => by rw [s3 ns j j1 j2 j3, qe j (by omega), a j (by omega)]
  have sp3 := m'.2.2.2.2.2.2.1.2
  have st3 := m'.2.1.1
  have u1 : uN (1 : Int32) = 1 := rfl
  have ea : uN (q3.2.1.1 1902 - 1) = uN (q3.2.1.1 1902) - 1 := by rw [u_sub (by omega), u1]
  refine Tm_chk (u_in (by omega) (by omega)) ?_
  refine Tm_ite (fun c13 => ?_) (fun c13 => ?_)
  · refine Tm_mono (b2 _ _ (q.2.2.1 + q3.2.2.1) (q.2.2.2 + q3.2.2.2) g' l' t' K' K2' K3' K4' rfl rfl rfl rfl ?_ m' mf3 (BY_f s4) ev3 ⟨by omega, by omega⟩) (fun r z => ?_)
    · show Gw g' (q3.2.1.2.2.1 20 (q3.2.1.1 1902 - 1).toNatClampNeg)
      rw [u_cl (by omega), ea]
      rcases s7 with y | y | y
      · rcases y with y | y
        · exact absurd c13 y
        · exact absurd y.1 ns
      · exact absurd y.1 ns
      · exact Or.inl y.2.2
    · show r.1.1 = 0 ∧ r.2.1.1 1903 = σ.1 1903 ∧ CoP σ (r.1, r.2.1, (q.2.2.1 + (q3.2.2.1 + r.2.2.1), q.2.2.2 + (q3.2.2.2 + r.2.2.2))) ∧ _
      rw [← Nat.add_assoc, ← Nat.add_assoc]
      exact z
  · refine Tm_op (Tm_By c_fill23 (fun k => kb_y_J7_fill_53178__a23 _ _ _ _ s4)) (fun q4 z4 => ?_)
    obtain ⟨⟨f, zf, hf⟩, by4⟩ := z4
    have m4 : MIn c g' l' t' K' K2' K3' (fun _ => none) (uN (σ.1 1902)) K q4.2 := by
      rw [zf]
      obtain ⟨m1, ⟨v1, v2, v3⟩, m3, m4, m5, m6⟩ := m'
      have md : Md q3.2.1 (uF q3.2.1 23 f) := Md_F q3.2.1 (by decide) f
      have rk4 : Rwk g' ((uF q3.2.1 23 f).2.2.1 3) (fun _ => none) ((uF q3.2.1 23 f).2.2.1 23) 3780 := by
        rw [uF_s]
        intro j hj
        rw [hf j hj]
        exact Rwn (Gv_om g')
      exact ⟨HQ_fr m1 rfl rfl rfl, ⟨v1, rk4, v3⟩, CtL_M m3 (Md_M md), m4, SVK_d md m5, m6⟩
    have f4 : MFr q3.2.1 q4.2 := by rw [zf]; exact Md_M (Md_F q3.2.1 (by decide) f)
    have ph4 := Ph_s (σ := q3.2.1) (σ' := q4.2) (by rw [zf]; rfl)
    have e4' : ∀ j, q4.2.1 j = q3.2.1.1 j := fun j => by rw [zf]; rfl
    generalize q4.2 = ω at *
    refine Tm_op c_raw (fun q5 z5 => ?_)
    rw [z5]
    refine Tm_mono (b2 _ ω (q.2.2.1 + q3.2.2.1) (q.2.2.2 + q3.2.2.2) g' l' t' K' K2' K3' _ rfl rfl rfl rfl ?_ m4 (MFr_t mf3 f4) (BY_f by4) (fun j j1 j2 j3 => by rw [e4']; exact ev3 j j1 j2 j3) ⟨by omega, by omega⟩) (fun r z => ?_)
    · show Gw g' (rwN (uN (ω.1 1813) % 268435456))
      exact Gw_rr (rwN_r (by omega))
    · show r.1.1 = 0 ∧ r.2.1.1 1903 = σ.1 1903 ∧ CoP σ (r.1, r.2.1, (q.2.2.1 + (q3.2.2.1 + r.2.2.1), q.2.2.2 + (q3.2.2.2 + r.2.2.2))) ∧ _
      rw [← Nat.add_assoc, ← Nat.add_assoc]
      exact z
end CUP
end JnS431
section JnS432
/-! The class: code that is typed as it is laid. -/
section CUQ
variable {c c' c1 c2 : Ct} {O O' H H' : Nat → Prop} {u nu nu' pc ln R R' p d rk k : Nat} {r : List Nat}
/-- code goes on from c: what is typed stays; places of O have their ranks still to come -/
def CtG (O : Nat → Prop) (u nu : Nat) (c c' : Ct) : Prop := tcN c ≤ tcN c' ∧ (∀ v, (1 ≤ v ∧ v ≤ nu) ∨ v = 41 → tcE c' v = tcE c v ∧ tcP c' v = tcP c v ∧ tcF c' v = tcF c v) ∧ (∀ v, v ≤ nu ∨ v = 41 → (tcK c' v ↔ tcK c v)) ∧ (tcF c 0 ≤ tcF c' 0 ∧ (u = 0 → tcF c' 0 = tcF c 0)) ∧ ∀ pc x, tcD c pc = some x → (¬ O pc → tcD c' pc = some x) ∧ (O pc → ∃ rk', tcD c' pc = some (x.1, x.2.1, x.2.2.1, rk'))
theorem CtG_r (O : Nat → Prop) (u nu : Nat) (c : Ct) : CtG O u nu c c := ⟨Nat.le_refl _, fun _ _ => ⟨rfl, rfl, rfl⟩, fun _ _ => Iff.rfl, ⟨Nat.le_refl _, fun _ => rfl⟩, fun pc x h => ⟨fun _ => h, fun _ => ⟨x.2.2.2, h⟩⟩⟩
theorem CtG_t (a : CtG O u nu c c1) (b : CtG O' u nu' c1 c2) (hn : nu ≤ nu') (ho : ∀ p x, tcD c p = some x → O' p → O p) : CtG O u nu c c2 := by
  obtain ⟨a1, a2, a3, a4, a5⟩ := a
  obtain ⟨b1, b2, b3, b4, b5⟩ := b
  refine ⟨by omega, fun v hv => ?_, fun v hv => (b3 v (by omega)).trans (a3 v hv), ⟨by omega, fun e => (b4.2 e).trans (a4.2 e)⟩, fun pc x h => ⟨fun n => ?_, fun o => ?_⟩⟩
  · have y := a2 v hv
    have z := b2 v (by omega)
    exact ⟨z.1.trans y.1, z.2.1.trans y.2.1, z.2.2.trans y.2.2⟩
  · exact (b5 pc x ((a5 pc x h).1 n)).1 (fun o' => n (ho pc x h o'))
  · obtain ⟨k, e⟩ := (a5 pc x h).2 o
    by_cases o' : O' pc
    · obtain ⟨k', e'⟩ := (b5 pc _ e).2 o'
      exact ⟨k', e'⟩
    · exact ⟨k, (b5 pc _ e).1 o'⟩
/-- what CkA asks of a place -/
def CkP (c : Ct) (pc : Nat) : Prop := ∀ u d r rk, tcD c pc = some (u, d, r, rk) → pc + 1 ≤ tcN c ∧ rk ≤ 72 * (RK + 1) ∧ ∃ op, op < 256 ∧ tcC c pc &&& 255 = nI op ∧ (u < 42 → OKI c pc u d r rk op (tcC c pc >>> ((8 : Int32) &&& 31))) ∧ (100 ≤ u → op = 113 ∧ 1000 ≤ rk ∧ ∀ d' r0, r = (750000 + (d' + 2)) :: r0 → NxS c (pc + 1) (u - 100) (d' + 1) r0)
/-- so it is, however the code goes on -/
def OKq (O : Nat → Prop) (u nu : Nat) (c : Ct) (pc ln R : Nat) : Prop := ∀ c', CtG O u nu c c' → (∀ i, pc ≤ i → i < pc + ln → tcC c' i = tcC c i) → (∀ p x, O p → tcD c' p = some x → x.2.2.2 < R) → CkP c' pc
theorem OKq_m (h : OKq O u nu c pc ln R) (a : CtG O u nu c c1) (hc : ∀ i, pc ≤ i → i < pc + ln → tcC c1 i = tcC c i) (hi : ∀ p, O p → ∃ x, tcD c p = some x) (cl : ∀ p x, O p → ¬ O' p → tcD c1 p = some x → x.2.2.2 < R) (hn : nu ≤ nu') (ho : ∀ p x, tcD c p = some x → O' p → O p) : OKq O' u nu' c1 pc ln R := by
  intro c' a' hc' ro
  refine h c' (CtG_t a a' hn ho) (fun i h1 h2 => (hc' i h1 h2).trans (hc i h1 h2)) (fun p x o e => ?_)
  by_cases o' : O' p
  · exact ro p x o' e
  · obtain ⟨x0, e0⟩ := hi p o
    obtain ⟨k, e1⟩ := (a.2.2.2.2 p x0 e0).2 o
    have e2 := (a'.2.2.2.2 p _ e1).1 o'
    rw [e2] at e
    cases e
    exact cl p _ o o' e1
/-- code laid so far is typed, but for the places of H -/
def TI (O H : Nat → Prop) (nu R : Nat) (c : Ct) : Prop := tcN c ≤ 36864 ∧ (∀ p, O p → (H p ∨ tcN c ≤ p) ∧ ∃ x, tcD c p = some x) ∧ (∀ h, H h → h < tcN c) ∧ (∀ p, tcN c < p → tcD c p = none) ∧ ∀ pc x, tcD c pc = some x → pc < tcN c → H pc ∨ ∃ ln Rp, 1 ≤ ln ∧ pc + ln ≤ tcN c ∧ R ≤ Rp ∧ (∀ h, H h → h < pc ∨ pc + ln ≤ h) ∧ OKq O (x.1 % 100) nu c pc ln Rp
/-- the same code, units told besides, a place typed that wasn't -/
def CtB (nu : Nat) (c c' : Ct) : Prop := (∀ v, (1 ≤ v ∧ v ≤ nu) ∨ v = 41 → tcE c' v = tcE c v ∧ tcP c' v = tcP c v ∧ tcF c' v = tcF c v) ∧ (∀ v, v ≤ nu ∨ v = 41 → (tcK c' v ↔ tcK c v))
/-- an instruction is laid; y: how it goes on behind it; Hn: it is still to be aimed; On: what follows is a NEXT -/
theorem TI_em {y : Option (Nat × Nat × List Nat × Nat)} {Hn On : Prop} (h : TI O H nu R c) (l1 : 1 ≤ ln) (hN : tcN c + ln ≤ 36864) (e1 : ∀ i, i < tcN c → tcC c' i = tcC c i) (e2 : tcN c' = tcN c + ln) (eT : (tcE c' = tcE c ∧ tcP c' = tcP c) ∧ tcF c' = tcF c ∧ tcK c' = tcK c) (eD : ∀ p, tcD c' p = if p = tcN c + ln then y else tcD c p) (hO : ∀ p, O' p ↔ O p ∨ (p = tcN c + ln ∧ On)) (hOn : On → y.isSome = true) (hH : ∀ p, H' p ↔ H p ∨ (p = tcN c ∧ Hn)) (hOH : O (tcN c) → Hn) (ok : ¬ Hn → ∀ x, tcD c (tcN c) = some x → OKq O' (x.1 % 100) nu c' (tcN c) ln R) (hR : R' ≤ R) : TI O' H' nu R' c' := by
  obtain ⟨t1, t2, th, t3, t4⟩ := h
  obtain ⟨⟨eE, eP⟩, eF, eK⟩ := eT
  have noD : tcD c (tcN c + ln) = none := t3 _ (by omega)
  have ne : ∀ p x, tcD c p = some x → ¬ p = tcN c + ln := fun p x e q => by rw [q, noD] at e; cases e
  have dd : ∀ p x, tcD c p = some x → tcD c' p = some x := fun p x e => by rw [eD, if_neg (ne p x e)]; exact e
  have ho : ∀ p x, tcD c p = some x → O' p → O p := fun p x e o => ((hO p).1 o).elim id (fun z => absurd z.1 (ne p x e))
  have ca : ∀ u, CtG O u nu c c' := fun u => ⟨by omega, fun v _ => by rw [eE, eP, eF]; exact ⟨rfl, rfl, rfl⟩, fun v _ => by rw [eK], ⟨by rw [eF]; exact Nat.le_refl _, fun _ => by rw [eF]⟩, fun p x e => ⟨fun _ => dd p x e, fun _ => ⟨x.2.2.2, dd p x e⟩⟩⟩
  refine ⟨by omega, fun p o => ?_, fun p hp => ?_, fun p hp => ?_, fun p x e hp => ?_⟩
  · rcases (hO p).1 o with z | z
    · obtain ⟨w, x, ex⟩ := t2 p z
      refine ⟨?_, x, dd p x ex⟩
      rcases w with w | w
      · exact Or.inl ((hH p).2 (Or.inl w))
      · by_cases q : p = tcN c
        · exact Or.inl ((hH p).2 (Or.inr ⟨q, hOH (q ▸ z)⟩))
        · rw [t3 p (by omega)] at ex
          cases ex
    · refine ⟨Or.inr (by omega), ?_⟩
      rw [eD, if_pos z.1]
      exact Option.isSome_iff_exists.1 (hOn z.2)
  · rcases (hH p).1 hp with z | z
    · have := th p z; omega
    · omega
  · rw [eD, if_neg (by omega)]
    exact t3 p (by omega)
  · rw [eD, if_neg (by omega)] at e
    rcases Nat.lt_or_ge p (tcN c) with q | q
    · rcases t4 p x e q with z | ⟨l, Rp, z1, z2, z3, z4, z5⟩
      · exact Or.inl ((hH p).2 (Or.inl z))
      · refine Or.inr ⟨l, Rp, z1, by omega, by omega, fun h' hh => ?_, ?_⟩
        · rcases (hH h').1 hh with w | w
          · exact z4 h' w
          · right; omega
        · exact OKq_m z5 (ca _) (fun i h1 h2 => e1 i (by omega)) (fun p o => (t2 p o).2) (fun p' x' o n _ => absurd ((hO p').2 (Or.inl o)) n) (Nat.le_refl _) ho
    · have ep : p = tcN c := by
        rcases Nat.lt_or_ge (tcN c) p with w | w
        · rw [t3 p w] at e; cases e
        · omega
      subst ep
      by_cases hn : Hn
      · exact Or.inl ((hH _).2 (Or.inr ⟨rfl, hn⟩))
      · refine Or.inr ⟨ln, R, l1, by omega, hR, fun h' hh => ?_, ok hn x e⟩
        rcases (hH h').1 hh with w | w
        · exact Or.inl (th h' w)
        · exact absurd w.2 hn
/-- a place that was left open to be aimed is filled -/
theorem TI_fi {h : Nat} {x : Nat × Nat × List Nat × Nat} (t : TI O H nu R c) (l1 : 1 ≤ ln) (hh : H h) (no : ¬ O h) (hl : h + ln ≤ tcN c) (e1 : ∀ i, i < h ∨ h + ln ≤ i → tcC c' i = tcC c i) (e2 : c'.2 = c.2) (hD : tcD c h = some x) (hg : ∀ i y, h < i → i < h + ln → ¬ tcD c i = some y) (hg2 : ∀ h', H h' → h' ≤ h ∨ h + ln ≤ h') (hH : ∀ p, H' p ↔ H p ∧ ¬ p = h) (ok : OKq O (x.1 % 100) nu c' h ln R) : TI O H' nu R c' := by
  obtain ⟨t1, t2, th, t3, t4⟩ := t
  have eN : tcN c' = tcN c := by show c'.2.1 = _; rw [e2]
  have eD : tcD c' = tcD c := by show c'.2.2.2.2.2.2 = _; rw [e2]
  have eE : tcE c' = tcE c := by show c'.2.2.1 = _; rw [e2]
  have eP : tcP c' = tcP c := by show c'.2.2.2.1 = _; rw [e2]
  have eF : tcF c' = tcF c := by show c'.2.2.2.2.1 = _; rw [e2]
  have eK : tcK c' = tcK c := by show c'.2.2.2.2.2.1 = _; rw [e2]
  have ca : ∀ u, CtG O u nu c c' := fun u => ⟨by omega, fun v _ => by rw [eE, eP, eF]; exact ⟨rfl, rfl, rfl⟩, fun v _ => by rw [eK], ⟨by rw [eF]; exact Nat.le_refl _, fun _ => by rw [eF]⟩, fun p x e => by rw [eD]; exact ⟨fun _ => e, fun _ => ⟨x.2.2.2, e⟩⟩⟩
  refine ⟨by omega, fun p o => ?_, fun p hp => by rw [eN]; exact th p ((hH p).1 hp).1, fun p hp => by rw [eD]; exact t3 p (by omega), fun p y e hp => ?_⟩
  · obtain ⟨w, y, ey⟩ := t2 p o
    refine ⟨?_, y, by rw [eD]; exact ey⟩
    rcases w with w | w
    · exact Or.inl ((hH p).2 ⟨w, fun q => no (q ▸ o)⟩)
    · exact Or.inr (by omega)
  · rw [eD] at e
    rw [eN] at hp
    by_cases q : p = h
    · subst q
      rw [hD] at e
      cases e
      refine Or.inr ⟨ln, R, l1, by omega, Nat.le_refl _, fun h' hh' => ?_, ok⟩
      have z := (hH h').1 hh'
      rcases hg2 h' z.1 with w | w
      · exact Or.inl (by have := z.2; omega)
      · exact Or.inr w
    · rcases t4 p y e hp with z | ⟨l, Rp, z1, z2, z3, z4, z5⟩
      · exact Or.inl ((hH p).2 ⟨z, q⟩)
      · refine Or.inr ⟨l, Rp, z1, by omega, z3, fun h' hh' => z4 h' ((hH h').1 hh').1, ?_⟩
        have far : h + ln ≤ p ∨ p + l ≤ h := by
          rcases z4 h hh with w | w
          · rcases Nat.lt_or_ge p (h + ln) with v | v
            · exact absurd e (hg p y w v)
            · exact Or.inl v
          · exact Or.inr w
        exact OKq_m z5 (ca _) (fun i h1 h2 => e1 i (by omega)) (fun p o => (t2 p o).2) (fun p' x' o n _ => absurd o n) (Nat.le_refl _) (fun _ _ _ o => o)
/-- a NEXT's rank is told when its loop is over -/
theorem TI_cl {p0 rk' : Nat} {x : Nat × Nat × List Nat × Nat} (t : TI O H nu R c) (hp : O p0) (hD : tcD c p0 = some x) (hl : p0 < tcN c) (hr : rk' < R) (e1 : tcC c' = tcC c) (e2 : tcN c' = tcN c) (eT : (tcE c' = tcE c ∧ tcP c' = tcP c) ∧ tcF c' = tcF c ∧ tcK c' = tcK c) (eD : ∀ p, tcD c' p = if p = p0 then some (x.1, x.2.1, x.2.2.1, rk') else tcD c p) (hO : ∀ p, O' p ↔ O p ∧ ¬ p = p0) : TI O' H nu R c' := by
  obtain ⟨t1, t2, th, t3, t4⟩ := t
  obtain ⟨⟨eE, eP⟩, eF, eK⟩ := eT
  have dd : ∀ p y, tcD c p = some y → ¬ p = p0 → tcD c' p = some y := fun p y e n => by rw [eD, if_neg n]; exact e
  have ca : ∀ u, CtG O u nu c c' := fun u => ⟨by omega, fun v _ => by rw [eE, eP, eF]; exact ⟨rfl, rfl, rfl⟩, fun v _ => by rw [eK], ⟨by rw [eF]; exact Nat.le_refl _, fun _ => by rw [eF]⟩, fun p y e => ⟨fun n => dd p y e (fun q => n (q ▸ hp)), fun o => by
    by_cases q : p = p0
    · rw [eD, if_pos q]
      rw [q, hD] at e
      cases e
      exact ⟨rk', rfl⟩
    · exact ⟨y.2.2.2, dd p y e q⟩⟩⟩
  have hp0 : H p0 := by
    rcases (t2 p0 hp).1 with w | w
    · exact w
    · omega
  refine ⟨by omega, fun p o => ?_, fun h hh => by rw [e2]; exact th h hh, fun p hp' => ?_, fun p y e hp' => ?_⟩
  · have z := (hO p).1 o
    obtain ⟨w, y, ey⟩ := t2 p z.1
    exact ⟨by rw [e2]; exact w, y, dd p y ey z.2⟩
  · rw [eD, if_neg (by omega)]
    exact t3 p (by omega)
  · rw [e2] at hp'
    by_cases q : p = p0
    · rw [q]; exact Or.inl hp0
    · rw [eD, if_neg q] at e
      rcases t4 p y e hp' with z | ⟨l, Rp, z1, z2, z3, z4, z5⟩
      · exact Or.inl z
      · refine Or.inr ⟨l, Rp, z1, by omega, z3, z4, ?_⟩
        refine OKq_m z5 (ca _) (fun i _ _ => by rw [e1]) (fun p o => (t2 p o).2) (fun p' x' o n e' => ?_) (Nat.le_refl _) (fun p' _ _ o => ((hO p').1 o).1)
        have q' : p' = p0 := Classical.byContradiction (fun q' => n ((hO p').2 ⟨o, q'⟩))
        rw [eD, if_pos q'] at e'
        cases e'
        show rk' < Rp
        omega
/-- tables grow: a unit more, a global more; the place where code goes on is typed; nothing of the code changes -/
theorem TI_tb {y : Option (Nat × Nat × List Nat × Nat)} {On : Prop} (t : TI O H nu R c) (e1 : ∀ i, i < tcN c → tcC c' i = tcC c i) (e2 : tcN c' = tcN c) (eT : ∀ u, CtG O u nu c (tcC c', tcN c', tcE c', tcP c', tcF c', tcK c', tcD c) ∨ ¬ (∃ pc x, tcD c pc = some x ∧ pc < tcN c ∧ x.1 % 100 = u)) (hn : nu ≤ nu') (hy : tcD c (tcN c) = none ∨ tcD c (tcN c) = y) (eD : ∀ p, tcD c' p = if p = tcN c then y else tcD c p) (hO : ∀ p, O' p ↔ O p ∨ (p = tcN c ∧ On)) (hOn : On → y.isSome = true ∧ (tcD c (tcN c) = none ∨ O (tcN c))) (hR : R' ≤ R) : TI O' H nu' R' c' := by
  obtain ⟨t1, t2, th, t3, t4⟩ := t
  have dd : ∀ p x, tcD c p = some x → tcD c' p = some x := fun p x e => by
    rw [eD]
    by_cases q : p = tcN c
    · rw [if_pos q]
      rw [q] at e
      rcases hy with z | z
      · rw [z] at e; cases e
      · rw [← z]; exact e
    · rw [if_neg q]; exact e
  refine ⟨by omega, fun p o => ?_, fun h hh => by rw [e2]; exact th h hh, fun p hp => ?_, fun p x e hp => ?_⟩
  · rcases (hO p).1 o with z | z
    · obtain ⟨w, x, ex⟩ := t2 p z
      exact ⟨by rw [e2]; exact w, x, dd p x ex⟩
    · refine ⟨Or.inr (by omega), ?_⟩
      rw [eD, if_pos z.1]
      exact Option.isSome_iff_exists.1 (hOn z.2).1
  · rw [eD, if_neg (by omega)]
    exact t3 p (by omega)
  · rw [e2] at hp
    rw [eD, if_neg (by omega)] at e
    rcases t4 p x e hp with z | ⟨l, Rp, z1, z2, z3, z4, z5⟩
    · exact Or.inl z
    · refine Or.inr ⟨l, Rp, z1, by omega, by omega, z4, ?_⟩
      have ca0 := (eT (x.1 % 100)).resolve_right (fun z => z ⟨p, x, e, hp, rfl⟩)
      have ca : CtG O (x.1 % 100) nu c c' := ⟨ca0.1, ca0.2.1, ca0.2.2.1, ca0.2.2.2.1, fun p' x' e' => ⟨fun _ => dd p' x' e', fun _ => ⟨x'.2.2.2, dd p' x' e'⟩⟩⟩
      refine OKq_m z5 ca (fun i h1 h2 => e1 i (by omega)) (fun p o => (t2 p o).2) (fun p' x' o n _ => absurd ((hO p').2 (Or.inl o)) n) hn (fun p' x' e' o => ?_)
      rcases (hO p').1 o with w | w
      · exact w
      · rcases (hOn w.2).2 with v | v
        · rw [w.1, v] at e'; cases e'
        · rw [w.1]; exact v
theorem TI_ck (t : TI (fun _ => False) (fun _ => False) nu R c) (h0 : tcD c (tcN c) = none) (k : ¬ tcK c 41) : CkA c := by
  obtain ⟨t1, t2, th, t3, t4⟩ := t
  refine ⟨t1, k, fun pc u d r rk e => ?_⟩
  rcases Nat.lt_or_ge pc (tcN c) with q | q
  · rcases t4 pc _ e q with z | ⟨l, Rp, z1, z2, z3, z4, z5⟩
    · exact z.elim
    · exact z5 c (CtG_r _ _ _ _) (fun _ _ _ => rfl) (fun _ _ o => o.elim) u d r rk e
  · rcases Nat.lt_or_ge (tcN c) pc with w | w
    · rw [t3 pc w] at e; cases e
    · rw [show pc = tcN c from by omega, h0] at e; cases e
/-- what holds of the code as it goes on -/
theorem tF_of (a : CtG O u nu c c') (hu : u ≤ nu ∨ u = 41) : tcF c' u = tcF c u := by
  by_cases e : u = 0
  · subst e; exact a.2.2.2.1.2 rfl
  · exact (a.2.1 u (by omega)).2.2
theorem tS_of (a : CtG O u nu c c') (hu : u ≤ nu ∨ u = 41) (h : tcS c u) : tcS c' u := ⟨fun k => h.1 ((a.2.2.1 u hu).1 k), h.2⟩
theorem nxD_of {d' : Nat} {r' : List Nat} (a : CtG O u nu c c') (hu : u ≤ nu ∨ u = 41) (h : tcD c p = some (u, d', r', rk)) (no : ¬ O p) (rs : Rsh d r d' r') (hb : tcF c u ≤ bt d' r') : NxD c' p u d r rk := ⟨d', r', (a.2.2.2.2 p _ h).1 no, rs, by rw [tF_of a hu]; exact hb⟩
theorem nx_of {d' : Nat} {r' : List Nat} (a : CtG O u nu c c') (hu : u ≤ nu ∨ u = 41) (h : tcD c p = some (u, d', r', rk)) (no : ¬ O p) (rs : Rsh d r d' r') (hb : tcF c u ≤ bt d' r') (hb2 : tcF c u ≤ bt d r) (hk : rk < k) : Nx c' p u d r k := ⟨rk, nxD_of a hu h no rs hb, hk, by rw [tF_of a hu]; exact hb2⟩
theorem nxS_of {d' : Nat} {r' : List Nat} (a : CtG O u nu c c') (hu : u ≤ nu ∨ u = 41) (h : tcD c p = some (u, d', r', rk)) (no : ¬ O p) (rs : Rsh d r d' r') (hb : tcF c u ≤ bt d' r') (hb2 : tcF c u ≤ bt d r) (hk : rk ≤ 72 * (RK + 1)) : NxS c' p u d r := ⟨rk, nxD_of a hu h no rs hb, hk, by rw [tF_of a hu]; exact hb2⟩
theorem nxO_of {d' : Nat} {r' : List Nat} (a : CtG O u nu c c') (hu : u ≤ nu ∨ u = 41) (ro : ∀ p x, O p → tcD c' p = some x → x.2.2.2 < R) (h : tcD c p = some (u, d', r', rk)) (o : O p) (rs : Rsh d r d' r') (hb : tcF c u ≤ bt d' r') (hb2 : tcF c u ≤ bt d r) (hk : R ≤ k) : Nx c' p u d r k := by
  obtain ⟨rk', e⟩ := (a.2.2.2.2 p _ h).2 o
  have z : rk' < R := ro p _ o e
  exact ⟨rk', ⟨d', r', e, rs, by rw [tF_of a hu]; exact hb⟩, by omega, by rw [tF_of a hu]; exact hb2⟩
theorem nxR_of (a : CtG O u nu c c') (hu : u ≤ nu ∨ u = 41) (h : tcD c p = some (u, d, r, rk)) (no : ¬ O p) (hb : tcF c u ≤ bt d r) (hk : rk ≤ RK) : NxR c' p u d r := ⟨rk, (a.2.2.2.2 p _ h).1 no, hk, by rw [tF_of a hu]; exact hb⟩
/-- an instruction of an ordinary unit -/
theorem OKq_of {op : Nat} {x : Int32} (hD : tcD c pc = some (u, d, r, rk)) (no : ¬ O pc) (hu : u < 42) (hN : pc + 1 ≤ tcN c) (hk : rk ≤ 72 * (RK + 1)) (ho : op < 256) (l1 : 1 ≤ ln) (w1 : tcC c pc &&& 255 = nI op) (w2 : tcC c pc >>> ((8 : Int32) &&& 31) = x) (ok : ∀ c', CtG O u nu c c' → (∀ i, pc ≤ i → i < pc + ln → tcC c' i = tcC c i) → (∀ p x, O p → tcD c' p = some x → x.2.2.2 < R) → OKI c' pc u d r rk op x) : OKq O (u % 100) nu c pc ln R := by
  rw [Nat.mod_eq_of_lt (by omega)]
  intro c' a hc ro u' d' r' rk' e
  have e0 := (a.2.2.2.2 pc _ hD).1 no
  rw [e0] at e
  cases e
  have ec := hc pc (Nat.le_refl _) (by omega)
  have n1 := a.1
  exact ⟨by omega, hk, op, ho, by rw [ec]; exact w1, fun _ => by rw [ec, w2]; exact ok c' a hc ro, fun z => absurd z (by omega)⟩
/-- ops are told by what OKI asks of their kind -/
theorem OKI_0 {op : Nat} {x : Int32} (h : op = 0) (k : Ok0 c pc u d r rk) : OKI c pc u d r rk op x := ⟨fun _ => k, fun z w => absurd z (by omega), fun z w => absurd z (by omega), fun z w => absurd z (by omega), fun z w => absurd z (by omega), fun z w => absurd z (by omega), fun z w => absurd z (by omega), fun z w => absurd z (by omega), fun z w => absurd z (by omega), fun z w => absurd z (by omega), fun z w => absurd z (by omega), fun z => absurd z (by omega), fun z w => absurd z (by omega), fun z w => absurd z (by omega), fun z w => absurd z (by omega)⟩
theorem OKI_1 {op : Nat} {x : Int32} (h : 1 ≤ op ∧ op < 10) (k : Ok1 c pc u d r rk op x) : OKI c pc u d r rk op x := ⟨fun z => absurd z (by omega), fun _ _ => k, fun z w => absurd z (by omega), fun z w => absurd z (by omega), fun z w => absurd z (by omega), fun z w => absurd z (by omega), fun z w => absurd z (by omega), fun z w => absurd z (by omega), fun z w => absurd z (by omega), fun z w => absurd z (by omega), fun z w => absurd z (by omega), fun z => absurd z (by omega), fun z w => absurd z (by omega), fun z w => absurd z (by omega), fun z w => absurd z (by omega)⟩
theorem OKI_v {op : Nat} {x : Int32} (h : 10 ≤ op ∧ op < 16) (k : u = 41 ∧ 1 ≤ d) : OKI c pc u d r rk op x := ⟨fun z => absurd z (by omega), fun z w => absurd z (by omega), fun _ _ => k, fun z w => absurd z (by omega), fun z w => absurd z (by omega), fun z w => absurd z (by omega), fun z w => absurd z (by omega), fun z w => absurd z (by omega), fun z w => absurd z (by omega), fun z w => absurd z (by omega), fun z w => absurd z (by omega), fun z => absurd z (by omega), fun z w => absurd z (by omega), fun z w => absurd z (by omega), fun z w => absurd z (by omega)⟩
theorem OKI_7 {op : Nat} {x : Int32} (h : 16 ≤ op ∧ op < 32) (k : (op = 17 → pc + 1 < tcN c) ∧ Ok7 c pc u d r rk op x) : OKI c pc u d r rk op x := ⟨fun z => absurd z (by omega), fun z w => absurd z (by omega), fun z w => absurd z (by omega), fun _ _ => k, fun z w => absurd z (by omega), fun z w => absurd z (by omega), fun z w => absurd z (by omega), fun z w => absurd z (by omega), fun z w => absurd z (by omega), fun z w => absurd z (by omega), fun z w => absurd z (by omega), fun z => absurd z (by omega), fun z w => absurd z (by omega), fun z w => absurd z (by omega), fun z w => absurd z (by omega)⟩
theorem OKI_2 {op : Nat} {x : Int32} (h : 32 ≤ op ∧ op < 48) (k : Ok2 c pc u d r rk op x) : OKI c pc u d r rk op x := ⟨fun z => absurd z (by omega), fun z w => absurd z (by omega), fun z w => absurd z (by omega), fun z w => absurd z (by omega), fun _ _ => k, fun z w => absurd z (by omega), fun z w => absurd z (by omega), fun z w => absurd z (by omega), fun z w => absurd z (by omega), fun z w => absurd z (by omega), fun z w => absurd z (by omega), fun z => absurd z (by omega), fun z w => absurd z (by omega), fun z w => absurd z (by omega), fun z w => absurd z (by omega)⟩
theorem OKI_3 {op : Nat} {x : Int32} (h : 48 ≤ op ∧ op < 64) (k : Ok3 c pc u d r rk op x) : OKI c pc u d r rk op x := ⟨fun z => absurd z (by omega), fun z w => absurd z (by omega), fun z w => absurd z (by omega), fun z w => absurd z (by omega), fun z w => absurd z (by omega), fun _ _ => k, fun z w => absurd z (by omega), fun z w => absurd z (by omega), fun z w => absurd z (by omega), fun z w => absurd z (by omega), fun z w => absurd z (by omega), fun z => absurd z (by omega), fun z w => absurd z (by omega), fun z w => absurd z (by omega), fun z w => absurd z (by omega)⟩
theorem OKI_4 {op : Nat} {x : Int32} (h : 64 ≤ op ∧ op < 80) (k : op ≤ 73 ∧ uN x < 200 ∧ Ok4 c pc u d r rk op (uN x)) : OKI c pc u d r rk op x := ⟨fun z => absurd z (by omega), fun z w => absurd z (by omega), fun z w => absurd z (by omega), fun z w => absurd z (by omega), fun z w => absurd z (by omega), fun z w => absurd z (by omega), fun _ _ => k, fun z w => absurd z (by omega), fun z w => absurd z (by omega), fun z w => absurd z (by omega), fun z w => absurd z (by omega), fun z => absurd z (by omega), fun z w => absurd z (by omega), fun z w => absurd z (by omega), fun z w => absurd z (by omega)⟩
theorem OKI_5 {op : Nat} {x : Int32} (h : 80 ≤ op ∧ op < 96) (k : Ok5 c pc u d r rk op x) : OKI c pc u d r rk op x := ⟨fun z => absurd z (by omega), fun z w => absurd z (by omega), fun z w => absurd z (by omega), fun z w => absurd z (by omega), fun z w => absurd z (by omega), fun z w => absurd z (by omega), fun z w => absurd z (by omega), fun _ _ => k, fun z w => absurd z (by omega), fun z w => absurd z (by omega), fun z w => absurd z (by omega), fun z => absurd z (by omega), fun z w => absurd z (by omega), fun z w => absurd z (by omega), fun z w => absurd z (by omega)⟩
theorem OKI_6 {op : Nat} {x : Int32} (h : 96 ≤ op ∧ op < 112) (k : Ok6 c pc u d r rk op x) : OKI c pc u d r rk op x := ⟨fun z => absurd z (by omega), fun z w => absurd z (by omega), fun z w => absurd z (by omega), fun z w => absurd z (by omega), fun z w => absurd z (by omega), fun z w => absurd z (by omega), fun z w => absurd z (by omega), fun z w => absurd z (by omega), fun _ _ => k, fun z w => absurd z (by omega), fun z w => absurd z (by omega), fun z => absurd z (by omega), fun z w => absurd z (by omega), fun z w => absurd z (by omega), fun z w => absurd z (by omega)⟩
theorem OKI_f {op : Nat} {x : Int32} (h : 112 ≤ op ∧ op < 128) (k : op = 112 ∧ 1 ≤ d ∧ ∃ e0 r1 rk', r = e0 :: r1 ∧ d + 1 < 250000 ∧ tcD c (pc + 1) = some (u + 100, 0, (750000 + (d + 1)) :: r, rk') ∧ (1000 ≤ rk' ∧ rk' ≤ rk) ∧ NxS c (pc + 2) u d r) : OKI c pc u d r rk op x := ⟨fun z => absurd z (by omega), fun z w => absurd z (by omega), fun z w => absurd z (by omega), fun z w => absurd z (by omega), fun z w => absurd z (by omega), fun z w => absurd z (by omega), fun z w => absurd z (by omega), fun z w => absurd z (by omega), fun z w => absurd z (by omega), fun _ _ => k, fun z w => absurd z (by omega), fun z => absurd z (by omega), fun z w => absurd z (by omega), fun z w => absurd z (by omega), fun z w => absurd z (by omega)⟩
theorem OKI_b {op : Nat} {x : Int32} (h : 128 ≤ op ∧ op < 144) (k : ∃ d', d = d' + 2 ∧ NxS c (pc + 1) u (d' + 1) r) : OKI c pc u d r rk op x := ⟨fun z => absurd z (by omega), fun z w => absurd z (by omega), fun z w => absurd z (by omega), fun z w => absurd z (by omega), fun z w => absurd z (by omega), fun z w => absurd z (by omega), fun z w => absurd z (by omega), fun z w => absurd z (by omega), fun z w => absurd z (by omega), fun z w => absurd z (by omega), fun _ _ => k, fun z => absurd z (by omega), fun z w => absurd z (by omega), fun z w => absurd z (by omega), fun z w => absurd z (by omega)⟩
theorem OKI_p {op : Nat} {x : Int32} (h : 208 ≤ op) (k : ∃ d', d = d' + uN x ∧ tcS c u ∧ Nx c (pc + 1) u d' r rk) : OKI c pc u d r rk op x := ⟨fun z => absurd z (by omega), fun z w => absurd z (by omega), fun z w => absurd z (by omega), fun z w => absurd z (by omega), fun z w => absurd z (by omega), fun z w => absurd z (by omega), fun z w => absurd z (by omega), fun z w => absurd z (by omega), fun z w => absurd z (by omega), fun z w => absurd z (by omega), fun z w => absurd z (by omega), fun _ => k, fun z w => absurd z (by omega), fun z w => absurd z (by omega), fun z w => absurd z (by omega)⟩
theorem OKI_u {op : Nat} {x : Int32} (h : 160 ≤ op ∧ op < 176) (k : 1 ≤ d ∧ NxS c (pc + 1) u d r) : OKI c pc u d r rk op x := ⟨fun z => absurd z (by omega), fun z w => absurd z (by omega), fun z w => absurd z (by omega), fun z w => absurd z (by omega), fun z w => absurd z (by omega), fun z w => absurd z (by omega), fun z w => absurd z (by omega), fun z w => absurd z (by omega), fun z w => absurd z (by omega), fun z w => absurd z (by omega), fun z w => absurd z (by omega), fun z => absurd z (by omega), fun _ _ => k, fun z w => absurd z (by omega), fun z w => absurd z (by omega)⟩
theorem OKI_8 {op : Nat} {x : Int32} (h : 176 ≤ op ∧ op < 192) (k : Ok8 c pc u d r rk op x) : OKI c pc u d r rk op x := ⟨fun z => absurd z (by omega), fun z w => absurd z (by omega), fun z w => absurd z (by omega), fun z w => absurd z (by omega), fun z w => absurd z (by omega), fun z w => absurd z (by omega), fun z w => absurd z (by omega), fun z w => absurd z (by omega), fun z w => absurd z (by omega), fun z w => absurd z (by omega), fun z w => absurd z (by omega), fun z => absurd z (by omega), fun z w => absurd z (by omega), fun _ _ => k, fun z w => absurd z (by omega)⟩
theorem OKI_9 {op : Nat} {x : Int32} (h : 192 ≤ op ∧ op < 208) (k : Ok9 c pc u d r rk op x) : OKI c pc u d r rk op x := ⟨fun z => absurd z (by omega), fun z w => absurd z (by omega), fun z w => absurd z (by omega), fun z w => absurd z (by omega), fun z w => absurd z (by omega), fun z w => absurd z (by omega), fun z w => absurd z (by omega), fun z w => absurd z (by omega), fun z w => absurd z (by omega), fun z w => absurd z (by omega), fun z w => absurd z (by omega), fun z => absurd z (by omega), fun z w => absurd z (by omega), fun z w => absurd z (by omega), fun _ _ => k⟩
end CUQ
end JnS432
section JnS433
/-! The class: segments of code, typed wherever they are laid. -/
section CUR
variable {c c' c1 c2 : Ct} {O O' H H' : Nat → Prop} {u nu nu' pc ln R R' p d rk k op w n m m' : Nat} {r pre ms ms' : List Nat} {x : Int32} {Vm : Nat → Prop} {cs ins a b : List Int32} {gl : Nat × (Nat → Nat → Prop)}
theorem u_shl8 (x : Int32) : uN (x <<< ((8 : Int32) &&& 31)) = uN x * 256 % 4294967296 := by
  show (x.toBitVec <<< (((8 : Int32) &&& 31).toBitVec.smod 32)).toNat = _
  rw [BitVec.shiftLeft_eq', show (((8 : Int32) &&& 31).toBitVec.smod 32).toNat = 8 from by decide, BitVec.toNat_shiftLeft, Nat.shiftLeft_eq]
  rfl
/-- an instruction with its number -/
def em (op : Nat) (x : Int32) : Int32 := nI op ||| (x <<< ((8 : Int32) &&& 31))
theorem em_u (ho : op < 256) : uN (em op x) = op + 256 * (uN x % 16777216) := by
  have e8 := u_shl8 x
  have e : uN (x <<< ((8 : Int32) &&& 31)) = (uN x % 16777216) * 2 ^ 8 := by rw [e8]; omega
  unfold em
  rw [u_orA (k := 8) (a := uN x % 16777216) (by rw [u_n (by omega)]; omega) e, u_n (by omega), e]
  omega
theorem em_lo (ho : op < 256) : em op x &&& 255 = nI op := by
  rw [u_of (em op x &&& 255), u_and]
  refine congrArg nI ((Nat.and_two_pow_sub_one_eq_mod (uN (em op x)) 8).trans ?_)
  rw [em_u ho]
  omega
/-- a number of three bytes, with its sign -/
def Sm3 (x : Int32) : Prop := uN x < 8388608 ∨ 4286578688 ≤ uN x
theorem em_hi (ho : op < 256) (hx : Sm3 x) : em op x >>> ((8 : Int32) &&& 31) = x := by
  have lt := u_lt x
  have e := em_u (x := x) ho
  rw [u_of (em op x >>> ((8 : Int32) &&& 31)), u_of x]
  refine congrArg nI ?_
  rw [← u_of x]
  show ((em op x).toBitVec.sshiftRight' (((8 : Int32) &&& 31).toBitVec.smod 32)).toNat = uN x
  rw [BitVec.sshiftRight_eq', show (((8 : Int32) &&& 31).toBitVec.smod 32).toNat = 8 from by decide]
  rcases hx with h | h
  · rw [BitVec.sshiftRight_eq_of_msb_false (by rw [BitVec.msb_eq_decide]; exact decide_eq_false (by show ¬ 2 ^ 31 ≤ uN (em op x); omega)), BitVec.toNat_ushiftRight, Nat.shiftRight_eq_div_pow]
    show uN (em op x) / 2 ^ 8 = _
    omega
  · rw [BitVec.sshiftRight_eq_of_msb_true (by rw [BitVec.msb_eq_decide]; exact decide_eq_true (by show 2 ^ 31 ≤ uN (em op x); omega)), BitVec.toNat_not, BitVec.toNat_ushiftRight, BitVec.toNat_not, Nat.shiftRight_eq_div_pow]
    show 2 ^ 32 - 1 - (2 ^ 32 - 1 - uN (em op x)) / 2 ^ 8 = uN x
    omega
theorem Sm3_n {k : Nat} (h : k < 8388608) : Sm3 (nI k) := Or.inl (by rw [u_n (by omega)]; exact h)
theorem Sm3_0 : Sm3 0 := Or.inl (by decide)
/-- a shape over the frame's slots -/
abbrev sh (pre : List Nat) (w : Nat) (ms : List Nat) : List Nat := pre ++ (bsl + w) :: ms
theorem sh_bt : ∀ (pre : List Nat) (d : Nat), (∀ e, e ∈ pre → e < bsl) → bt d (sh pre w ms) = w
  | [], d, _ => by
    show (if bsl ≤ bsl + w then bsl + w - bsl else bt ((bsl + w) / 2) ms) = w
    rw [if_pos (Nat.le_add_right _ _)]; omega
  | e :: pre, d, h => by
    show (if bsl ≤ e then e - bsl else bt (e / 2) (sh pre w ms)) = w
    have := h e List.mem_cons_self
    rw [if_neg (by omega)]
    exact sh_bt pre _ (fun i hi => h i (List.mem_cons_of_mem _ hi))
theorem sh_has {y : Nat} : ∀ pre : List Nat, (∀ e, e ∈ pre → e < bsl) → y ∈ ms → HasM y (sh pre w ms)
  | [], _, h => ⟨fun _ => h, fun z => absurd (Nat.le_add_right _ _) z⟩
  | e :: pre, hp, h => ⟨fun z => absurd z (by have := hp e List.mem_cons_self; omega), fun _ => sh_has pre (fun i hi => hp i (List.mem_cons_of_mem _ hi)) h⟩
theorem shAll {P : Nat → Prop} : ∀ pre : List Nat, (∀ e, e ∈ pre → e < bsl) → (∀ i, i ∈ ms → P i) → AllM P (sh pre w ms)
  | [], _, h => ⟨fun _ => h, fun z => absurd (Nat.le_add_right _ _) z⟩
  | e :: pre, hp, h => ⟨fun z => absurd z (by have := hp e List.mem_cons_self; omega), fun _ => shAll pre (fun i hi => hp i (List.mem_cons_of_mem _ hi)) h⟩
theorem sh_mrl {Q : Nat → List Nat → Prop} : ∀ pre : List Nat, (∀ e, e ∈ pre → e < bsl) → (∀ i, i ∈ ms' → Q i ms) → Mrl Q (sh pre w ms') (sh pre w ms)
  | [], _, h => ⟨ms, rfl, fun _ => h, fun z => absurd (Nat.le_add_right _ _) z⟩
  | e :: pre, hp, h => ⟨sh pre w ms, rfl, fun z => absurd z (by have := hp e List.mem_cons_self; omega), fun _ => sh_mrl pre (fun i hi => hp i (List.mem_cons_of_mem _ hi)) h⟩
theorem sh_slb : ∀ pre : List Nat, SlB (sh pre w ms)
  | [] => fun z => absurd (Nat.le_add_right _ _) z
  | e :: pre => fun _ => sh_slb pre
theorem sh_ne : ∀ pre : List Nat, ∃ e s, sh pre w ms = e :: s
  | [] => ⟨_, _, rfl⟩
  | e :: pre => ⟨_, _, rfl⟩
/-- funcs that are told may be called -/
def Unt (O : Nat → Prop) (nu : Nat) (c : Ct) : Prop := ∀ v, 1 ≤ v → v ≤ nu → tcK c v → v < 41 ∧ tcP c v ≤ tcF c v ∧ tcF c v ≤ 1000 ∧ ¬ O (tcE c v) ∧ ∃ rk, rk ≤ RK ∧ tcD c (tcE c v) = some (v, 0, (bsl + tcF c v) :: Vl (tcF c v), rk)
/-- what a segment is laid in: the unit, slots of iters in use, globals, marks wanted -/
def CnC (O : Nat → Prop) (u p : Nat) (gl : Nat × (Nat → Nat → Prop)) (Vm : Nat → Prop) (nu : Nat) (c : Ct) (w : Nat) (ms : List Nat) : Prop := (u ≤ nu ∨ u = 41) ∧ u < 42 ∧ tcF c u ≤ w ∧ (gl.1 ≤ tcF c 0 ∧ ∀ v n, gl.2 v n → 1 ≤ v ∧ v ≤ nu ∧ tcK c v ∧ tcP c v = n) ∧ p ≤ 180 ∧ (∀ i, i ∈ ms → bsl ≤ i → (i - bsl) % 500000 < p) ∧ (∀ i, Vm i → i ∈ ms) ∧ Unt O nu c
/-- the code, so far, and how it goes on -/
abbrev mkc (c : Ct) (C : Nat → Int32) (N : Nat) (D : Nat → Option (Nat × Nat × List Nat × Nat)) : Ct := (C, N, tcE c, tcP c, tcF c, tcK c, D)
theorem Unt_k {C : Nat → Int32} {N : Nat} {D : Nat → Option (Nat × Nat × List Nat × Nat)} (h : Unt O nu c) (hD : ∀ q y, tcD c q = some y → D q = some y) : Unt O nu (mkc c C N D) := by
  intro v h1 h2 k
  obtain ⟨a1, a2, a3, a4, rk, a5, a6⟩ := h v h1 h2 k
  exact ⟨a1, a2, a3, a4, rk, a5, hD _ _ a6⟩
theorem CnC_k {C : Nat → Int32} {N : Nat} {D : Nat → Option (Nat × Nat × List Nat × Nat)} (h : CnC O u p gl Vm nu c w ms) (hD : ∀ q y, tcD c q = some y → D q = some y) : CnC O u p gl Vm nu (mkc c C N D) w ms := ⟨h.1, h.2.1, h.2.2.1, h.2.2.2.1, h.2.2.2.2.1, h.2.2.2.2.2.1, h.2.2.2.2.2.2.1, Unt_k h.2.2.2.2.2.2.2 hD⟩
theorem Unt_o {O' : Nat → Prop} (h : Unt O nu c) (ho : ∀ q y, tcD c q = some y → O' q → O q) : Unt O' nu c := by
  intro v h1 h2 k
  obtain ⟨a1, a2, a3, a4, rk, a5, a6⟩ := h v h1 h2 k
  exact ⟨a1, a2, a3, fun z => a4 (ho _ _ a6 z), rk, a5, a6⟩
/-- one instruction, without jumps: from m values on top to m' -/
def Itc (u p : Nat) (gl : Nat × (Nat → Nat → Prop)) (Vm : Nat → Prop) (m m' : Nat) (ins : List Int32) : Prop := ∀ (O : Nat → Prop) (nu R : Nat) (c : Ct) (pc d : Nat) (pre : List Nat) (w : Nat) (ms : List Nat), (∀ i, i < ins.length → tcC c (pc + i) = ins.getD i 0) → pc + ins.length ≤ tcN c → ¬ O pc → ¬ O (pc + ins.length) → tcD c pc = some (u, d + m, sh pre w ms, R) → tcD c (pc + ins.length) = some (u, d + m', sh pre w ms, R - ins.length) → (∀ e, e ∈ pre → e < bsl) → CnC O u p gl Vm nu c w ms → 1000 + ins.length ≤ R → R ≤ RK → d + m ≤ 100000 ∧ d + m' ≤ 100000 → OKq O (u % 100) nu c pc ins.length R
/-- a segment: it lays n values upon the stack -/
def Sgm (u p : Nat) (gl : Nat × (Nat → Nat → Prop)) (Vm : Nat → Prop) (n : Nat) (cs : List Int32) : Prop := n ≤ cs.length ∧ ∀ (O H : Nat → Prop) (nu R : Nat) (c : Ct) (d : Nat) (pre : List Nat) (w : Nat) (ms : List Nat) (C : Nat → Int32), TI O H nu R c → ¬ O (tcN c) → tcD c (tcN c) = some (u, d, sh pre w ms, R) → (∀ e, e ∈ pre → e < bsl) → CnC O u p gl Vm nu c w ms → 1000 + cs.length ≤ R → R ≤ RK → d + cs.length ≤ 100000 → tcN c + cs.length ≤ 36864 → (∀ i, i < tcN c → C i = tcC c i) → (∀ i, i < cs.length → C (tcN c + i) = cs.getD i 0) → ∃ D, TI O H nu (R - cs.length) (mkc c C (tcN c + cs.length) D) ∧ (∀ q, q ≤ tcN c → D q = tcD c q) ∧ D (tcN c + cs.length) = some (u, d + n, sh pre w ms, R - cs.length)
/-- a segment that makes n values of m -/
def Sg2 (u p : Nat) (gl : Nat × (Nat → Nat → Prop)) (Vm : Nat → Prop) (m n : Nat) (cs : List Int32) : Prop := ∀ (O H : Nat → Prop) (nu R : Nat) (c : Ct) (d : Nat) (pre : List Nat) (w : Nat) (ms : List Nat) (C : Nat → Int32), TI O H nu R c → ¬ O (tcN c) → tcD c (tcN c) = some (u, d + m, sh pre w ms, R) → (∀ e, e ∈ pre → e < bsl) → CnC O u p gl Vm nu c w ms → 1000 + cs.length ≤ R → R ≤ RK → d + m + cs.length ≤ 100000 → tcN c + cs.length ≤ 36864 → (∀ i, i < tcN c → C i = tcC c i) → (∀ i, i < cs.length → C (tcN c + i) = cs.getD i 0) → ∃ D, TI O H nu (R - cs.length) (mkc c C (tcN c + cs.length) D) ∧ (∀ q, q ≤ tcN c → D q = tcD c q) ∧ D (tcN c + cs.length) = some (u, d + n, sh pre w ms, R - cs.length)
theorem gd_l {i : Nat} (h : i < a.length) : (a ++ b).getD i 0 = a.getD i 0 := by
  rw [List.getD_eq_getElem?_getD, List.getD_eq_getElem?_getD, List.getElem?_append_left h]
theorem gd_r (i : Nat) : (a ++ b).getD (a.length + i) 0 = b.getD i 0 := by
  rw [List.getD_eq_getElem?_getD, List.getD_eq_getElem?_getD, List.getElem?_append_right (Nat.le_add_right _ _), Nat.add_sub_cancel_left]
/-- entries stay, since none lies beyond -/
theorem dd_of {D : Nat → Option (Nat × Nat × List Nat × Nat)} (t : TI O H nu R c) (e : ∀ q, q ≤ tcN c → D q = tcD c q) : ∀ q y, tcD c q = some y → D q = some y := by
  intro q y h
  rcases Nat.lt_or_ge (tcN c) q with z | z
  · rw [t.2.2.2.1 q z] at h; cases h
  · rw [e q z]; exact h
theorem Sgm_nil (u p : Nat) (gl : Nat × (Nat → Nat → Prop)) (Vm : Nat → Prop) : Sgm u p gl Vm 0 [] := by
  refine ⟨Nat.le_refl _, fun O H nu R c d pre w ms C t no hD hp cn hR1 hR2 hd hN hC1 hC2 => ⟨tcD c, ?_, fun _ _ => rfl, hD⟩⟩
  exact TI_tb (y := tcD c (tcN c)) (On := False) (nu' := nu) t hC1 rfl (fun u => Or.inl (CtG_r O u nu c)) (Nat.le_refl _) (Or.inr rfl) (fun q => by
    show tcD c q = _
    by_cases z : q = tcN c
    · rw [if_pos z, z]
    · rw [if_neg z]) (fun q => ⟨Or.inl, fun z => z.elim id (fun w => w.2.elim)⟩) (fun z => z.elim) (Nat.le_refl _)
theorem Sgm_seq {n1 n2 : Nat} (h1 : Sgm u p gl Vm n1 a) (h2 : Sgm u p gl Vm n2 b) : Sgm u p gl Vm (n1 + n2) (a ++ b) := by
  obtain ⟨l1, h1⟩ := h1
  obtain ⟨l2, h2⟩ := h2
  refine ⟨by rw [List.length_append]; omega, fun O H nu R c d pre w ms C t no hD hp cn hR1 hR2 hd hN hC1 hC2 => ?_⟩
  rw [List.length_append] at hR1 hd hN hC2 ⊢
  obtain ⟨D1, t1, e1, f1⟩ := h1 O H nu R c d pre w ms C t no hD hp cn (by omega) hR2 (by omega) (by omega) hC1 (fun i hi => by rw [hC2 i (by omega), gd_l hi])
  have dd := dd_of t e1
  have no1 : ¬ O (tcN c + a.length) := fun o => by
    by_cases z : a.length = 0
    · rw [z] at o; exact no o
    · obtain ⟨y, ey⟩ := (t.2.1 _ o).2
      rw [t.2.2.2.1 _ (by omega)] at ey
      cases ey
  obtain ⟨D2, t2, e2, f2⟩ := h2 O H nu (R - a.length) (mkc c C (tcN c + a.length) D1) (d + n1) pre w ms C t1 no1 f1 hp (CnC_k cn dd) (by omega) (by omega) (by omega) (by show tcN c + a.length + b.length ≤ _; omega) (fun _ _ => rfl) (fun i hi => by
    show C (tcN c + a.length + i) = _
    rw [Nat.add_assoc, hC2 _ (by omega), gd_r])
  refine ⟨D2, ?_, fun q hq => ?_, ?_⟩
  · rw [← Nat.sub_sub, ← Nat.add_assoc]; exact t2
  · rw [e2 q (by show q ≤ tcN c + a.length; omega), ← e1 q hq]
  · rw [← Nat.sub_sub, ← Nat.add_assoc, ← Nat.add_assoc]; exact f2
theorem Sgm_ap (h : Sgm u p gl Vm m cs) (hl : 1 ≤ ins.length) (hm : m' ≤ cs.length + ins.length) (it : Itc u p gl Vm m m' ins) : Sgm u p gl Vm m' (cs ++ ins) := by
  obtain ⟨l1, h1⟩ := h
  refine ⟨by rw [List.length_append]; omega, fun O H nu R c d pre w ms C t no hD hp cn hR1 hR2 hd hN hC1 hC2 => ?_⟩
  rw [List.length_append] at hR1 hd hN hC2 ⊢
  obtain ⟨D1, t1, e1, f1⟩ := h1 O H nu R c d pre w ms C t no hD hp cn (by omega) hR2 (by omega) (by omega) hC1 (fun i hi => by rw [hC2 i (by omega), gd_l hi])
  have dd := dd_of t e1
  have noO : ∀ q, tcN c < q → ¬ O q := fun q hq o => by
    obtain ⟨y, ey⟩ := (t.2.1 _ o).2
    rw [t.2.2.2.1 _ hq] at ey
    cases ey
  have no1 : ¬ O (tcN c + cs.length) := fun o => by
    by_cases z : cs.length = 0
    · rw [z] at o; exact no o
    · exact noO _ (by omega) o
  let D2 : Nat → Option (Nat × Nat × List Nat × Nat) := fun q => if q = tcN c + cs.length + ins.length then some (u, d + m', sh pre w ms, R - cs.length - ins.length) else D1 q
  have d2 : ∀ q, ¬ q = tcN c + cs.length + ins.length → D2 q = D1 q := fun q hq => if_neg hq
  have d2e : D2 (tcN c + cs.length + ins.length) = some (u, d + m', sh pre w ms, R - cs.length - ins.length) := if_pos rfl
  have nb : D1 (tcN c + cs.length + ins.length) = none := t1.2.2.2.1 _ (by show tcN c + cs.length < _; omega)
  have dd2 : ∀ q y, D1 q = some y → D2 q = some y := fun q y e => by
    rw [d2 q (fun z => by rw [z, nb] at e; cases e)]; exact e
  have t2 : TI O H nu (R - cs.length - ins.length) (mkc c C (tcN c + cs.length + ins.length) D2) := by
    refine TI_em (ln := ins.length) (y := some (u, d + m', sh pre w ms, R - cs.length - ins.length)) (Hn := False) (On := False) t1 hl (by show tcN c + cs.length + ins.length ≤ _; omega) (fun _ _ => rfl) rfl ⟨⟨rfl, rfl⟩, rfl, rfl⟩ (fun q => rfl) (fun q => ⟨Or.inl, fun z => z.elim id (fun w => w.2.elim)⟩) (fun z => z.elim) (fun q => ⟨Or.inl, fun z => z.elim id (fun w => w.2.elim)⟩) (fun o => no1 o) (fun _ y ey => ?_) (Nat.sub_le _ _)
    have ey' : D1 (tcN c + cs.length) = some y := ey
    rw [f1] at ey'
    cases ey'
    exact it O nu (R - cs.length) (mkc c C (tcN c + cs.length + ins.length) D2) (tcN c + cs.length) d pre w ms (fun i hi => by
      show C (tcN c + cs.length + i) = _
      rw [Nat.add_assoc, hC2 _ (by omega), gd_r]) (Nat.le_refl _) no1 (noO _ (by omega)) (dd2 _ _ f1) d2e hp (CnC_k cn (fun q y e => dd2 q y (dd q y e))) (by omega) (by omega) ⟨by omega, by omega⟩
  refine ⟨D2, ?_, fun q hq => ?_, ?_⟩
  · rw [← Nat.sub_sub, ← Nat.add_assoc]; exact t2
  · rw [d2 q (by omega), ← e1 q hq]
  · rw [← Nat.sub_sub, ← Nat.add_assoc]; exact d2e
theorem Sgm_1 (hl : 1 ≤ ins.length) (hm : m' ≤ ins.length) (it : Itc u p gl Vm 0 m' ins) : Sgm u p gl Vm m' ins := Sgm_ap (Sgm_nil u p gl Vm) hl (by rw [List.length_nil]; omega) it
end CUR
end JnS433
section JnS434
/-! The class: instructions without jumps, typed. -/
section CUS
variable {c c' c1 c2 : Ct} {O O' H H' : Nat → Prop} {u nu nu' pc ln R R' p d rk k op w n m m' q : Nat} {r pre ms ms' : List Nat} {x v : Int32} {Vm : Nat → Prop} {cs ins a b : List Int32} {gl : Nat × (Nat → Nat → Prop)}
theorem it_S (a : CtG O u nu c c') (cn : CnC O u p gl Vm nu c w ms) (hp : ∀ e, e ∈ pre → e < bsl) (hD : tcD c q = some (u, d, sh pre w ms, R')) (no : ¬ O q) (hR : R' ≤ RK) : NxS c' q u d (sh pre w ms) := nxS_of a cn.1 hD no (Rsh_r _ _) (by rw [sh_bt pre _ hp]; exact cn.2.2.1) (by rw [sh_bt pre _ hp]; exact cn.2.2.1) (by omega)
theorem it_N (a : CtG O u nu c c') (cn : CnC O u p gl Vm nu c w ms) (hp : ∀ e, e ∈ pre → e < bsl) (hD : tcD c q = some (u, d, sh pre w ms, R')) (no : ¬ O q) (hR : R' < k) : Nx c' q u d (sh pre w ms) k := nx_of a cn.1 hD no (Rsh_r _ _) (by rw [sh_bt pre _ hp]; exact cn.2.2.1) (by rw [sh_bt pre _ hp]; exact cn.2.2.1) hR
/-- of one int -/
theorem It_1 (ho : op < 256) (hx : Sm3 x) (ok : ∀ (O : Nat → Prop) (nu R : Nat) (c c' : Ct) (pc d : Nat) (pre : List Nat) (w : Nat) (ms : List Nat), pc + 1 ≤ tcN c → ¬ O (pc + 1) → tcD c (pc + 1) = some (u, d + m', sh pre w ms, R - 1) → (∀ e, e ∈ pre → e < bsl) → CnC O u p gl Vm nu c w ms → 1001 ≤ R → R ≤ RK → d + m ≤ 100000 ∧ d + m' ≤ 100000 → CtG O u nu c c' → OKI c' pc u (d + m) (sh pre w ms) R op x) : Itc u p gl Vm m m' [em op x] := by
  intro O nu R c pc d pre w ms hc hN no no2 hD hD2 hp cn hR1 hR2 hd
  have e0 : tcC c pc = em op x := hc 0 (by show 0 < 1; decide)
  have hN' : pc + 1 ≤ tcN c := hN
  have hR1' : 1000 + 1 ≤ R := hR1
  exact OKq_of (x := x) hD no cn.2.1 hN' (by omega) ho (Nat.le_refl 1) (by rw [e0]; exact em_lo ho) (by rw [e0]; exact em_hi ho hx) (fun c' a _ _ => ok O nu R c c' pc d pre w ms hN' no2 hD2 hp cn (by omega) hR2 hd a)

theorem It_bin (h : 128 ≤ op ∧ op < 144) : Itc u p gl Vm 2 1 [em op 0] := It_1 (by omega) Sm3_0 (fun O nu R c c' pc d pre w ms hN no2 hD2 hp cn hR1 hR2 hd a => OKI_b h ⟨d, rfl, (it_S a cn hp hD2 no2 (by omega))⟩)
theorem It_un (h : 160 ≤ op ∧ op < 176) : Itc u p gl Vm 1 1 [em op 0] := It_1 (by omega) Sm3_0 (fun O nu R c c' pc d pre w ms hN no2 hD2 hp cn hR1 hR2 hd a => OKI_u h ⟨by omega, (it_S a cn hp hD2 no2 (by omega))⟩)
theorem It_tr  : Itc u p gl Vm 1 1 [em 8 0] := It_1 (by decide) Sm3_0 (fun O nu R c c' pc d pre w ms hN no2 hD2 hp cn hR1 hR2 hd a => OKI_1 (by decide) ⟨fun z => absurd z (by decide), fun z => absurd z (by decide), fun z => absurd z (by decide), fun z => absurd z (by decide), fun _ => ⟨by omega, (it_S a cn hp hD2 no2 (by omega))⟩⟩)
theorem It_not  : Itc u p gl Vm 1 1 [em 9 0] := It_1 (by decide) Sm3_0 (fun O nu R c c' pc d pre w ms hN no2 hD2 hp cn hR1 hR2 hd a => OKI_1 (by decide) ⟨fun z => absurd z (by decide), fun z => absurd z (by decide), fun z => absurd z (by decide), fun z => absurd z (by decide), fun _ => ⟨by omega, (it_S a cn hp hD2 no2 (by omega))⟩⟩)
theorem It_ld (hx : uN x < 500000) (hv : Vm (500000 + uN x)) : Itc u p gl Vm 0 1 [em 35 x] := It_1 (by decide) (Or.inl (by omega)) (fun O nu R c c' pc d pre w ms hN no2 hD2 hp cn hR1 hR2 hd a => OKI_2 (by decide) ⟨fun z => absurd z (by decide), fun z => absurd z (by decide), fun z => absurd z (by decide), fun _ => ⟨⟨hx, sh_has pre hp (cn.2.2.2.2.2.2.1 _ hv)⟩, (it_N a cn hp hD2 no2 (by omega))⟩, fun z => absurd z (by decide), fun z => absurd z (by decide), fun z => absurd z (by decide), fun z => absurd z (by decide), fun z => absurd z (by decide), fun z => absurd z (by decide), fun z => absurd z (by decide)⟩)
theorem It_lg (hx : uN x < gl.1) (hg : gl.1 ≤ 1000) : Itc u p gl Vm 0 1 [em 36 x] := It_1 (by decide) (Or.inl (by omega)) (fun O nu R c c' pc d pre w ms hN no2 hD2 hp cn hR1 hR2 hd a => OKI_2 (by decide) ⟨fun z => absurd z (by decide), fun z => absurd z (by decide), fun z => absurd z (by decide), fun z => absurd z (by decide), fun _ => ⟨Nat.lt_of_lt_of_le hx (Nat.le_trans cn.2.2.2.1.1 a.2.2.2.1.1), (it_N a cn hp hD2 no2 (by omega))⟩, fun z => absurd z (by decide), fun z => absurd z (by decide), fun z => absurd z (by decide), fun z => absurd z (by decide), fun z => absurd z (by decide), fun z => absurd z (by decide)⟩)
theorem It_lp (hx : uN x < 180) (hv : Vm (bsl + 500000 + uN x)) : Itc u p gl Vm 0 1 [em 41 x] := It_1 (by decide) (Or.inl (by omega)) (fun O nu R c c' pc d pre w ms hN no2 hD2 hp cn hR1 hR2 hd a => OKI_2 (by decide) ⟨fun z => absurd z (by decide), fun z => absurd z (by decide), fun z => absurd z (by decide), fun z => absurd z (by decide), fun z => absurd z (by decide), fun z => absurd z (by decide), fun z => absurd z (by decide), fun z => absurd z (by decide), fun _ => ⟨⟨hx, sh_has pre hp (cn.2.2.2.2.2.2.1 _ hv)⟩, (it_N a cn hp hD2 no2 (by omega))⟩, fun z => absurd z (by decide), fun z => absurd z (by decide)⟩)
theorem It_gi  : Itc u p gl Vm 1 1 [em 40 0] := It_1 (by decide) Sm3_0 (fun O nu R c c' pc d pre w ms hN no2 hD2 hp cn hR1 hR2 hd a => OKI_2 (by decide) ⟨fun z => absurd z (by decide), fun z => absurd z (by decide), fun z => absurd z (by decide), fun z => absurd z (by decide), fun z => absurd z (by decide), fun z => absurd z (by decide), fun z => absurd z (by decide), fun z => absurd z (by decide), fun z => absurd z (by decide), fun z => absurd z (by decide), fun _ => ⟨by omega, (it_S a cn hp hD2 no2 (by omega))⟩⟩)
theorem It_ms (hx : uN x = n) (hn : n < 8388608) : Itc u p gl Vm n 1 [em 48 x] := It_1 (by decide) (Or.inl (by omega)) (fun O nu R c c' pc d pre w ms hN no2 hD2 hp cn hR1 hR2 hd a => OKI_3 (by decide) ⟨fun _ => ⟨d, by rw [hx], by rw [tF_of a cn.1, sh_bt pre _ hp]; exact cn.2.2.1, (it_S a cn hp hD2 no2 (by omega))⟩, fun z => absurd z (by decide), fun z => absurd z (by decide), fun z => absurd z (by decide), fun z => absurd z (by decide)⟩)
theorem It_mt (hx : uN x = n) (hn : n < 8388608) : Itc u p gl Vm n 1 [em 49 x] := It_1 (by decide) (Or.inl (by omega)) (fun O nu R c c' pc d pre w ms hN no2 hD2 hp cn hR1 hR2 hd a => OKI_3 (by decide) ⟨fun _ => ⟨d, by rw [hx], by rw [tF_of a cn.1, sh_bt pre _ hp]; exact cn.2.2.1, (it_S a cn hp hD2 no2 (by omega))⟩, fun z => absurd z (by decide), fun z => absurd z (by decide), fun z => absurd z (by decide), fun z => absurd z (by decide)⟩)
theorem It_ss  : Itc u p gl Vm 2 1 [em 50 0] := It_1 (by decide) Sm3_0 (fun O nu R c c' pc d pre w ms hN no2 hD2 hp cn hR1 hR2 hd a => OKI_3 (by decide) ⟨fun z => absurd z (by decide), fun _ => ⟨d, rfl, (it_S a cn hp hD2 no2 (by omega))⟩, fun z => absurd z (by decide), fun z => absurd z (by decide), fun z => absurd z (by decide)⟩)
theorem It_st  : Itc u p gl Vm 2 1 [em 51 0] := It_1 (by decide) Sm3_0 (fun O nu R c c' pc d pre w ms hN no2 hD2 hp cn hR1 hR2 hd a => OKI_3 (by decide) ⟨fun z => absurd z (by decide), fun _ => ⟨d, rfl, (it_S a cn hp hD2 no2 (by omega))⟩, fun z => absurd z (by decide), fun z => absurd z (by decide), fun z => absurd z (by decide)⟩)
theorem It_ps  : Itc u p gl Vm 3 1 [em 52 0] := It_1 (by decide) Sm3_0 (fun O nu R c c' pc d pre w ms hN no2 hD2 hp cn hR1 hR2 hd a => OKI_3 (by decide) ⟨fun z => absurd z (by decide), fun z => absurd z (by decide), fun _ => ⟨d, rfl, (it_S a cn hp hD2 no2 (by omega))⟩, fun z => absurd z (by decide), fun z => absurd z (by decide)⟩)
theorem It_pt  : Itc u p gl Vm 3 1 [em 53 0] := It_1 (by decide) Sm3_0 (fun O nu R c c' pc d pre w ms hN no2 hD2 hp cn hR1 hR2 hd a => OKI_3 (by decide) ⟨fun z => absurd z (by decide), fun z => absurd z (by decide), fun _ => ⟨d, rfl, (it_S a cn hp hD2 no2 (by omega))⟩, fun z => absurd z (by decide), fun z => absurd z (by decide)⟩)
theorem It_na  : Itc u p gl Vm 0 1 [em 54 0] := It_1 (by decide) Sm3_0 (fun O nu R c c' pc d pre w ms hN no2 hD2 hp cn hR1 hR2 hd a => OKI_3 (by decide) ⟨fun z => absurd z (by decide), fun z => absurd z (by decide), fun z => absurd z (by decide), fun _ => (it_S a cn hp hD2 no2 (by omega)), fun z => absurd z (by decide)⟩)
theorem It_ra  : Itc u p gl Vm 1 1 [em 55 0] := It_1 (by decide) Sm3_0 (fun O nu R c c' pc d pre w ms hN no2 hD2 hp cn hR1 hR2 hd a => OKI_3 (by decide) ⟨fun z => absurd z (by decide), fun z => absurd z (by decide), fun z => absurd z (by decide), fun z => absurd z (by decide), fun _ => ⟨by omega, (it_S a cn hp hD2 no2 (by omega))⟩⟩)
theorem It_p1  : Itc u p gl Vm 2 1 [em 96 0] := It_1 (by decide) Sm3_0 (fun O nu R c c' pc d pre w ms hN no2 hD2 hp cn hR1 hR2 hd a => OKI_6 (by decide) ⟨fun _ => ⟨d, rfl, (it_S a cn hp hD2 no2 (by omega))⟩, fun z => absurd z (by decide), fun z => absurd z (by decide), fun z => absurd z (by decide), fun z => absurd z (by decide)⟩)
theorem It_pa  : Itc u p gl Vm 2 1 [em 98 0] := It_1 (by decide) Sm3_0 (fun O nu R c c' pc d pre w ms hN no2 hD2 hp cn hR1 hR2 hd a => OKI_6 (by decide) ⟨fun _ => ⟨d, rfl, (it_S a cn hp hD2 no2 (by omega))⟩, fun z => absurd z (by decide), fun z => absurd z (by decide), fun z => absurd z (by decide), fun z => absurd z (by decide)⟩)
theorem It_pr  : Itc u p gl Vm 3 1 [em 97 0] := It_1 (by decide) Sm3_0 (fun O nu R c c' pc d pre w ms hN no2 hD2 hp cn hR1 hR2 hd a => OKI_6 (by decide) ⟨fun z => absurd z (by decide), fun _ => ⟨d, rfl, (it_S a cn hp hD2 no2 (by omega))⟩, fun z => absurd z (by decide), fun z => absurd z (by decide), fun z => absurd z (by decide)⟩)
/-- of two ints -/
theorem It_2 (ho : op < 256) (hx : Sm3 x) (ok : ∀ (O : Nat → Prop) (nu R : Nat) (c c' : Ct) (pc d : Nat) (pre : List Nat) (w : Nat) (ms : List Nat), pc + 2 ≤ tcN c → tcC c' (pc + 1) = v → ¬ O (pc + 2) → tcD c (pc + 2) = some (u, d + m', sh pre w ms, R - 2) → (∀ e, e ∈ pre → e < bsl) → CnC O u p gl Vm nu c w ms → 1002 ≤ R → R ≤ RK → d + m ≤ 100000 ∧ d + m' ≤ 100000 → CtG O u nu c c' → OKI c' pc u (d + m) (sh pre w ms) R op x) : Itc u p gl Vm m m' [em op x, v] := by
  intro O nu R c pc d pre w ms hc hN no no2 hD hD2 hp cn hR1 hR2 hd
  have e0 : tcC c pc = em op x := hc 0 (by show 0 < 2; decide)
  have e1 : tcC c (pc + 1) = v := hc 1 (by show 1 < 2; decide)
  have hN' : pc + 2 ≤ tcN c := hN
  have hR1' : 1000 + 2 ≤ R := hR1
  exact OKq_of (x := x) hD no cn.2.1 (by omega) (by omega) ho (by show 1 ≤ 2; decide) (by rw [e0]; exact em_lo ho) (by rw [e0]; exact em_hi ho hx) (fun c' a hc' _ => ok O nu R c c' pc d pre w ms hN' ((hc' (pc + 1) (by omega) (by show pc + 1 < pc + 2; omega)).trans e1) no2 hD2 hp cn (by omega) hR2 hd a)
theorem It_pu (hv : LitG v) : Itc u p gl Vm 0 1 [em 32 0, v] := It_2 (by decide) Sm3_0 (fun O nu R c c' pc d pre w ms hN ev no2 hD2 hp cn hR1 hR2 hd a => OKI_2 (by decide) ⟨fun _ => ⟨by have := a.1; omega, by rw [ev]; exact hv, (it_N a cn hp hD2 no2 (by omega))⟩, fun z => absurd z (by decide), fun z => absurd z (by decide), fun z => absurd z (by decide), fun z => absurd z (by decide), fun z => absurd z (by decide), fun z => absurd z (by decide), fun z => absurd z (by decide), fun z => absurd z (by decide), fun z => absurd z (by decide), fun z => absurd z (by decide)⟩)
theorem It_li (hv : LitG v) : Itc u p gl Vm 0 1 [em 33 0, v] := It_2 (by decide) Sm3_0 (fun O nu R c c' pc d pre w ms hN ev no2 hD2 hp cn hR1 hR2 hd a => OKI_2 (by decide) ⟨fun z => absurd z (by decide), fun _ => ⟨by have := a.1; omega, by rw [ev]; exact hv, (it_S a cn hp hD2 no2 (by omega))⟩, fun z => absurd z (by decide), fun z => absurd z (by decide), fun z => absurd z (by decide), fun z => absurd z (by decide), fun z => absurd z (by decide), fun z => absurd z (by decide), fun z => absurd z (by decide), fun z => absurd z (by decide), fun z => absurd z (by decide)⟩)
/-- a whole or a string as it will lie in the heap -/
theorem It_lc {hd0 : Int32} {bd : List Int32} (hn : n = 1 + bd.length) (hn2 : n < 8388608) (hx : uN x = n) (h1 : uN hd0 < 2147483648) (h2 : n = 1 + hdW (uN hd0)) (h3 : hdK (uN hd0) = 2 ∨ hdK (uN hd0) = 4) (h4 : hdT (uN hd0) ≤ 30 ∧ 1 ≤ hdS (uN hd0)) (h5 : hdK (uN hd0) = 2 → 1 ≤ hdL (uN hd0) ∧ hdL (uN hd0) ≤ 32) : Itc u p gl Vm 0 1 (em 34 x :: hd0 :: bd) := by
  intro O nu R c pc d pre w ms hc hN no no2 hD hD2 hp cn hR1 hR2 hd
  have el : (em 34 x :: hd0 :: bd).length = 1 + n := by show bd.length + 1 + 1 = _; omega
  rw [el] at hc hN no2 hD2 hR1 ⊢
  have e0 : tcC c pc = em 34 x := hc 0 (by omega)
  have e1 : tcC c (pc + 1) = hd0 := hc 1 (by omega)
  have hx' : Sm3 x := Or.inl (by omega)
  refine OKq_of (op := 34) (x := x) hD no cn.2.1 (by omega) (by omega) (by decide) (by omega) (by rw [e0]; exact em_lo (by decide)) (by rw [e0]; exact em_hi (by decide) hx') (fun c' a hc' _ => OKI_2 (by decide) ⟨fun z => absurd z (by decide), fun z => absurd z (by decide), fun _ => ⟨?_, ?_, ?_⟩, fun z => absurd z (by decide), fun z => absurd z (by decide), fun z => absurd z (by decide), fun z => absurd z (by decide), fun z => absurd z (by decide), fun z => absurd z (by decide), fun z => absurd z (by decide), fun z => absurd z (by decide)⟩)
  · have := a.1; omega
  · rw [hx]
    unfold LitC
    rw [hc' (pc + 1) (by omega) (by omega), e1]
    exact ⟨h1, h2, h3, h4, h5⟩
  · rw [hx, Nat.add_assoc]
    exact it_S a cn hp hD2 no2 (by omega)
/-- values that are gathered into one, one by one: FOLD, FOLD_ON -/
theorem Sg2_fo {y : Int32} : Sg2 u p gl Vm 1 1 [em 112 0, em 113 y] := by
  have el : ∀ i j : Int32, [i, j].length = 2 := fun _ _ => rfl
  intro O H nu R c d pre w ms C t no f1 hp cn hR1 hR2 hd hN hC1 hC2
  rw [el] at hR1 hd hN hC2 ⊢
  have noO : ∀ q, tcN c < q → ¬ O q := fun q hq o => by
    obtain ⟨y, ey⟩ := (t.2.1 _ o).2
    rw [t.2.2.2.1 _ hq] at ey
    cases ey
  have cA : C (tcN c) = em 112 0 := hC2 0 (by decide)
  have cB : C (tcN c + 1) = em 113 y := hC2 1 (by decide)
  let D2 : Nat → Option (Nat × Nat × List Nat × Nat) := fun q => if q = tcN c + 1 then some (u + 100, 0, (750000 + (d + 1 + 1)) :: sh pre w ms, R) else tcD c q
  let D3 : Nat → Option (Nat × Nat × List Nat × Nat) := fun q => if q = tcN c + 1 + 1 then some (u, d + 1, sh pre w ms, R - 2) else D2 q
  have nb : ∀ q, tcN c < q → tcD c q = none := fun q hq => t.2.2.2.1 q hq
  have dd2 : ∀ q y, tcD c q = some y → D3 q = some y := fun q y e => by
    have n1 : ¬ q = tcN c + 1 := fun z => by rw [z, nb _ (by omega)] at e; cases e
    have n2 : ¬ q = tcN c + 1 + 1 := fun z => by rw [z, nb _ (by omega)] at e; cases e
    show (if q = tcN c + 1 + 1 then _ else if q = tcN c + 1 then _ else tcD c q) = _
    rw [if_neg n2, if_neg n1]; exact e
  have d3a : D3 (tcN c + 1) = some (u + 100, 0, (750000 + (d + 1 + 1)) :: sh pre w ms, R) := by
    show (if tcN c + 1 = tcN c + 1 + 1 then _ else if tcN c + 1 = tcN c + 1 then _ else tcD c (tcN c + 1)) = _
    rw [if_neg (by omega), if_pos rfl]
  have d3b : D3 (tcN c + 1 + 1) = some (u, d + 1, sh pre w ms, R - 2) := if_pos rfl
  have cn3 : CnC O u p gl Vm nu (mkc c C (tcN c + 1 + 1) D3) w ms := CnC_k cn dd2
  have u42 := cn.2.1
  have hb : tcF c u ≤ bt (d + 1) (sh pre w ms) := by rw [sh_bt pre _ hp]; exact cn.2.2.1
  have t3 : TI O H nu (R - 2) (mkc c C (tcN c + 1 + 1) D3) := by
    have t2 : TI O (fun h => H h ∨ h = tcN c) nu (R) (mkc c C (tcN c + 1) D2) := TI_em (ln := 1) (y := some (u + 100, 0, (750000 + (d + 1 + 1)) :: sh pre w ms, R)) (Hn := True) (On := False) t (Nat.le_refl _) (by show tcN c + 1 ≤ _; omega) hC1 rfl ⟨⟨rfl, rfl⟩, rfl, rfl⟩ (fun q => rfl) (fun q => ⟨Or.inl, fun z => z.elim id (fun w => w.2.elim)⟩) (fun z => z.elim) (fun q => ⟨fun z => z.elim Or.inl (fun e => Or.inr ⟨e, trivial⟩), fun z => z.elim Or.inl (fun e => Or.inr e.1)⟩) (fun _ => trivial) (fun z => absurd trivial z) (Nat.le_refl _)
    have t3 : TI O (fun h => H h ∨ h = tcN c) nu (R - 2) (mkc c C (tcN c + 1 + 1) D3) := TI_em (ln := 1) (y := some (u, d + 1, sh pre w ms, R - 2)) (Hn := False) (On := False) t2 (Nat.le_refl _) (by show tcN c + 1 + 1 ≤ _; omega) (fun _ _ => rfl) rfl ⟨⟨rfl, rfl⟩, rfl, rfl⟩ (fun q => rfl) (fun q => ⟨Or.inl, fun z => z.elim id (fun w => w.2.elim)⟩) (fun z => z.elim) (fun q => ⟨Or.inl, fun z => z.elim id (fun w => w.2.elim)⟩) (fun o => noO _ (by show tcN c < tcN c + 1; omega) o) (fun _ y ey => by
      have ey' : D2 (tcN c + 1) = some y := ey
      have ez : D2 (tcN c + 1) = some (u + 100, 0, (750000 + (d + 1 + 1)) :: sh pre w ms, R) := if_pos rfl
      rw [ez] at ey'
      cases ey'
      show OKq O ((u + 100) % 100) nu (mkc c C (tcN c + 1 + 1) D3) (tcN c + 1) 1 (R)
      rw [Nat.add_mod_right, Nat.mod_eq_of_lt (by omega)]
      intro c' a hc ro u' d' r' rk' e
      have e0 := (a.2.2.2.2 (tcN c + 1) _ d3a).1 (noO _ (by omega))
      rw [e0] at e
      cases e
      have n1 : tcN c + 1 + 1 ≤ tcN c' := a.1
      have ec : tcC c' (tcN c + 1) = em 113 _ := (hc (tcN c + 1) (Nat.le_refl _) (by omega)).trans cB
      refine ⟨n1, by omega, 113, by decide, by rw [ec]; exact em_lo (by decide), fun z => absurd z (by omega), fun _ => ⟨rfl, by omega, fun d' r0 er => ?_⟩⟩
      have er1 := (List.cons.inj er).1
      have er2 := (List.cons.inj er).2
      rw [← er2, show d' = d from by omega, Nat.add_sub_cancel]
      exact it_S a cn3 hp d3b (noO _ (by omega)) (by omega)) (by omega)
    refine TI_fi (h := tcN c) (ln := 1) (x := (u, d + 1, sh pre w ms, R)) t3 (Nat.le_refl _) (Or.inr rfl) no (by show tcN c + 1 ≤ tcN c + 1 + 1; omega) (fun _ _ => rfl) rfl (dd2 _ _ f1) (fun i y h1 h2 => absurd h1 (by omega)) (fun h' hh => ?_) (fun q => ?_) ?_
    · rcases hh with z | z
      · have := t.2.2.1 h' z
        left; exact Nat.le_of_lt this
      · left; omega
    · refine ⟨fun z => ⟨Or.inl z, fun e => ?_⟩, fun z => z.1.elim id (fun e => absurd e z.2)⟩
      have w1 : q < tcN c := t.2.2.1 q z
      omega
    · have z := OKq_of (O := O) (nu := nu) (c := mkc c C (tcN c + 1 + 1) D3) (pc := tcN c) (ln := 1) (R := R) (x := 0) (op := 112) (dd2 _ _ f1) no u42 (by show tcN c + 1 ≤ tcN c + 1 + 1; omega) (by omega) (by decide) (Nat.le_refl _) (by show C (tcN c) &&& 255 = _; rw [cA]; exact em_lo (by decide)) (by show C (tcN c) >>> ((8 : Int32) &&& 31) = _; rw [cA]; exact em_hi (by decide) Sm3_0) (fun c' a hc ro => OKI_f (by decide) (by
        obtain ⟨e0, s0, es⟩ := sh_ne (w := w) (ms := ms) pre
        exact ⟨rfl, by omega, e0, s0, R, es, by omega, (a.2.2.2.2 _ _ d3a).1 (noO _ (by omega)), ⟨by omega, Nat.le_refl _⟩, it_S a cn3 hp d3b (noO _ (by omega)) (by omega)⟩))
      intro c' a hc ro
      exact z c' a hc (fun p x o e => Nat.lt_of_lt_of_le (ro p x o e) (by omega))
  refine ⟨D3, t3, fun q hq => ?_, d3b⟩
  show (if q = tcN c + 1 + 1 then _ else if q = tcN c + 1 then _ else tcD c q) = _
  rw [if_neg (by omega), if_neg (by omega)]
end CUS
end JnS434
