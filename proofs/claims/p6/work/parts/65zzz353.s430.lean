/-! The class: a run begun anew. -/
section CUO
variable {g g' g2 : Nat → Prop} {l l' l2 : List Nat} {t t' t2 : Nat} {σ σ' σ2 τ τ' φ : CS} {L : LV} {x y z i : Int32} {K K' K0 K2 K2' K3 K3' K4 K4' KB : Nat → Option Int32} {c : Ct} {B f0 u0 a T : Nat}
/-- the stack has room, or is given it -/
theorem c_isRoomY (hs : uN (σ.1 1902) + uN (L.1 1) ≤ 91000) (h2 : sN σ 20 ≤ 91000) : Tm (fun k => f_X3_isRoomFor k 0 L σ) (fun r => r.1 = (0, 1) ∧ r.2.1.1 = σ.1 ∧ uN (σ.1 1902) + uN (L.1 1) ≤ sN r.2.1 20 ∧ sN r.2.1 20 ≤ 91000) := by
  have ea : uN (σ.1 1902 + L.1 1) = uN (σ.1 1902) + uN (L.1 1) := u_add (by omega)
  have b1 : ∀ σ' : CS, σ'.1 = σ.1 → uN (σ.1 1902) + uN (L.1 1) ≤ sN σ' 20 → sN σ' 20 ≤ 91000 → Tm (fun k => f_X3_isRoomFor k 1 L σ') (fun r => r.1 = (0, 1) ∧ r.2.1.1 = σ.1 ∧ uN (σ.1 1902) + uN (L.1 1) ≤ sN r.2.1 20 ∧ sN r.2.1 20 ≤ 91000) := by
    intro σ' e s1 s2
    refine Tm_suc (fun k => by rw [f_X3_isRoomFor]) ?_
    rw [e]
    have c' : σ.1 1902 + L.1 1 ≤ nI (sN σ' 20) := by
      rw [u_le (by omega) (by rw [u_n (by omega)]; omega), ea, u_n (by omega)]; exact s1
    refine Tm_yes c' ?_
    refine Tm_suc (fun k => by rw [f_X3_isRoomFor]) ?_
    exact Tm_some ⟨rfl, e, s1, s2⟩
  refine Tm_suc (fun k => by rw [f_X3_isRoomFor]) ?_
  refine Tm_chk ⟨by decide, by decide, by omega⟩ ?_
  refine Tm_ite (fun c => ?_) (fun c => ?_)
  · refine Tm_adR ?_
    exact Tm_mono (b1 (uZ σ 20 91000) rfl hs (Nat.le_refl _)) (fun r q => q)
  · refine b1 σ rfl ?_ h2
    have e9 : (91000 : Int32).toNatClampNeg = 91000 := rfl
    rw [u_ltn (by rw [u_n (by omega)]; omega) (by omega), ea, u_n (by omega), e9] at c
    omega
theorem c_pushAllY (hs : uN (σ.1 1902) + uN (L.1 2) ≤ 91000) (h2 : sN σ 20 ≤ 91000) : Tm (fun k => f_X3_pushAll k 0 L σ) (fun q => uN (q.2.1.1 1902) = uN (σ.1 1902) + uN (L.1 2)) := by
  have b2 : ∀ (m : Nat) (L' : LV) (σ' : CS), uN (L'.1 3) + m = uN (L.1 2) → L'.1 2 = L.1 2 → σ'.1 = σ.1 → uN (σ.1 1902) + uN (L.1 2) ≤ sN σ' 20 → sN σ' 20 ≤ 91000 → Tm (fun k => f_X3_pushAll k 2 L' σ') (fun q => uN (q.2.1.1 1902) = uN (σ.1 1902) + uN (L.1 2)) := by
    intro m
    induction m with
    | zero =>
      intro L' σ' a3 a2 e s1 s2
      refine Tm_suc (fun k => by rw [f_X3_pushAll]) ?_
      refine Tm_yes (by rw [a2, u_le (by omega) (by omega)]; omega) ?_
      refine Tm_suc (fun k => by rw [f_X3_pushAll]) ?_
      refine Tm_suc (fun k => by rw [f_X3_pushAll]) ?_
      refine Tm_some ?_
      show uN (σ'.1 1902 + L'.1 2) = _
      rw [e, a2, u_add (by omega)]
    | succ m ih =>
      intro L' σ' a3 a2 e s1 s2
      have eu : uN (σ'.1 1902 + L'.1 3) = uN (σ.1 1902) + uN (L'.1 3) := by rw [e, u_add (by omega)]
      have e3 : uN (L'.1 3 + 1) = uN (L'.1 3) + 1 := u_inc (by omega)
      refine Tm_suc (fun k => by rw [f_X3_pushAll]) ?_
      refine Tm_no (by rw [a2, u_le (by omega) (by omega)]; omega) ?_
      refine Tm_chk (u_in (by omega) (by omega)) ?_
      refine ih _ _ ?_ a2 e s1 s2
      show uN (L'.1 3 + 1) + m = _
      omega
  refine Tm_suc (fun k => by rw [f_X3_pushAll]) ?_
  refine Tm_oxc (c_isRoomY hs h2) (fun r z => by rw [z.1]) (fun r z => ?_)
  obtain ⟨z1, z2, z3, z4⟩ := z
  rw [z1]
  refine Tm_no (by decide) ?_
  exact b2 (uN (L.1 2)) _ _ (by show uN (0 : Int32) + _ = _; rw [show uN (0 : Int32) = 0 from rfl]; omega) rfl z2 z3 z4
/-- what was laid, where it was laid -/
theorem PuO_y {n : Nat} {q : RS} (h : PuO σ x n q) (y : uN (q.2.1.1 1902) = uN (σ.1 1902) + n) : uN (q.2.1.1 1902) ≤ sN q.2.1 20 ∧ ∀ j, uN (σ.1 1902) ≤ j → j < uN (σ.1 1902) + n → q.2.1.2.2.1 20 j = x := by
  obtain ⟨h1, h2, h3, h4, h5, h6, h7⟩ := h
  rcases h7 with z | z
  · exact ⟨by rw [z.1]; exact z.2.1, z.2.2.1⟩
  · have e := z.1
    have e2 := z.2.1
    rw [e] at y ⊢
    exact ⟨e2, fun j j1 j2 => absurd j2 (by omega)⟩
/-- what a run begun anew finds -/
def RsB (c : Ct) (g : Nat → Prop) (l : List Nat) (t : Nat) (K3 K4 : Nat → Option Int32) (σ : CS) : Prop := HQ g l t σ ∧ ((1024 ≤ sN σ 20 ∧ sN σ 20 ≤ 91000) ∧ sN σ 21 ≤ 44200 ∧ uN (σ.1 1814) ≤ 10240000) ∧ Rwk g (σ.2.2.1 3) K4 (σ.2.2.1 23) 3780 ∧ Rwk g (σ.2.2.1 3) KN (σ.2.2.1 67) 27 ∧ (sPi σ 8 < 9 ∧ uN (usI σ) ≤ sN σ 26 ∧ sN σ 26 ≤ 20000 ∧ Rwk g (σ.2.2.1 3) K3 (σ.2.2.1 26) (uN (usI σ))) ∧ CtL c σ ∧ SVK c K3 σ
/-- where the program begins -/
def EnP (c : Ct) (σ : CS) (b : Bool) : Prop := tcF c 0 ≤ 200 ∧ tcS c 0 ∧ uN (σ.1 (fP b 2)) < 268435456 ∧ ∃ rk, rk ≤ RK ∧ tcD c (uN (σ.1 (fP b 2))) = some (0, 0, (bsl + tcF c 0) :: Vl (tcF c 0), rk)
theorem c_restart {b : Bool} (rs : RsB c g l t K3 K4 σ) (by0 : BY False σ) (eb : sPr σ = some b) (en : EnP c σ b) : Tm (fun k => f_X3_restart k 0 L σ) (fun q => q.1 = (0, 0) ∧ q.2.1.1 1903 = 0 ∧ CoP σ q ∧ MFr σ q.2.1 ∧ Mst c q.2.1) := by
  have main : Tm (fun k => f_X3_restart k 0 L σ) (fun q => q.1 = (0, 0) ∧ q.2.1.1 1903 = 0 ∧ CoP σ q ∧ MFr σ q.2.1 ∧ uN (q.2.1.1 1902) ≤ 10404 ∧ ∃ (g : Nat → Prop) (l : List Nat) (t : Nat) (K K2 K3 K4 : Nat → Option Int32), MIn c g l t K K2 K3 K4 (4 + tcF c 0) KH q.2.1 ∧ (q.2.1.1 1907 = 0 → uN (q.2.1.1 1905) ≤ 60000 ∧ RUN c K (uN (q.2.1.1 1900)) (uN (q.2.1.1 1901)) (uN (q.2.1.1 1902)) (uN (q.2.1.1 1908)) 0)) := by
    obtain ⟨m1, ⟨n20, n21, n14⟩, v2, v4, ⟨v5, v6, v7, v8⟩, m3, m5⟩ := rs
    obtain ⟨p1, p2, p3, rk, p4, p5⟩ := en
    have cr := (Ct_row m3 eb).2.2 0 (by decide)
    have b5 : ∀ (L' : LV) (τ : CS), τ.2 = σ.2 → (∀ j, ¬ (1900 ≤ j ∧ j < 1916) → τ.1 j = σ.1 j) → τ.1 1900 = σ.1 (fP b 2) → τ.1 1901 = 0 → τ.1 1902 = 0 → τ.1 1903 = 0 → τ.1 1905 = 0 → τ.1 1908 = 0 → τ.1 1912 = 0 → τ.1 1913 = 0 → τ.1 1914 = 0 → Tm (fun k => f_X3_restart k 5 L' τ) (fun q => q.1 = (0, 0) ∧ q.2.1.1 1903 = 0 ∧ CoP σ q ∧ MFr σ q.2.1 ∧ uN (q.2.1.1 1902) ≤ 10404 ∧ ∃ (g : Nat → Prop) (l : List Nat) (t : Nat) (K K2 K3 K4 : Nat → Option Int32), MIn c g l t K K2 K3 K4 (4 + tcF c 0) KH q.2.1 ∧ (q.2.1.1 1907 = 0 → uN (q.2.1.1 1905) ≤ 60000 ∧ RUN c K (uN (q.2.1.1 1900)) (uN (q.2.1.1 1901)) (uN (q.2.1.1 1902)) (uN (q.2.1.1 1908)) 0)) := by
      intro L' τ e2 o a0 a1 a2 a3 a5 a8 a12 a13 a14
      refine Tm_suc (fun k => by rw [f_X3_restart]) ?_
      generalize hω : uL (uI τ 1915 0) 1916 ((uI τ 1915 0).2.1 1817) = ω
      have w1 : ∀ j, ¬ j = 1915 → ω.1 j = τ.1 j := fun j hj => by rw [← hω]; exact uI_o hj
      have w15 : ω.1 1915 = 0 := by rw [← hω]; rfl
      have wl : ∀ j, ¬ j = 1916 → ω.2.1 j = σ.2.1 j := fun j hj => by
        rw [← hω]
        show updW τ.2.1 1916 _ j = _
        rw [updW_other hj, e2]
      have w2 : ω.2.2 = σ.2.2 := by rw [← hω]; show τ.2.2 = _; rw [e2]
      have wn : ∀ k, sN ω k = sN σ k := fun k => by show ω.2.2.2.2.1 k = _; rw [w2]
      have w02 : uN (ω.1 1902) = 0 := by rw [w1 1902 (by decide), a2]; rfl
      have e4 : uN (4 : Int32) = 4 := rfl
      refine Tm_oxc (Tm_and (c_pushAll (σ := ω) (L := lI (lI lZ 1 (-268435456)) 2 4) (by rw [w02]; exact Nat.zero_le _) (by rw [wn]; exact n20) (by show uN (4 : Int32) ≤ _; decide)) (c_pushAllY (σ := ω) (L := lI (lI lZ 1 (-268435456)) 2 4) (by rw [w02]; show 0 + uN (4 : Int32) ≤ _; decide) (by rw [wn]; exact n20.2))) (fun q z => by rw [z.1.1]) (fun q z => ?_)
      obtain ⟨z, zy⟩ := z
      have z0 : PuO ω (-268435456) 4 q := z
      have zy' : uN (q.2.1.1 1902) = 4 := by
        have y : uN (q.2.1.1 1902) = uN (ω.1 1902) + uN (4 : Int32) := zy
        rw [y, w02, e4]
      obtain ⟨y1, y2⟩ := PuO_y z0 (by rw [zy', w02])
      obtain ⟨z1, ⟨z2, z2'⟩, z3, z4, z5, z6, -⟩ := z0
      have ebq : sPr q.2.1 = some b := by
        show q.2.1.2.2.2.2.2.1.2.2.1 = _
        rw [z3.2.2.2.2.2, w2]; exact eb
      have r18 : q.2.1.2.2.1 (pR18 b) = σ.2.2.1 (pR18 b) := by
        rw [z3.2.2.1 (pR18 b) (by unfold pR18; cases b <;> (show ¬ _; decide)), w2]
      refine Tm_oP ebq (Tm_chk (by decide) ?_)
      have F0 : uN (q.2.1.2.2.1 (pR18 b) (0 : Int32).toNatClampNeg) = tcF c 0 := by
        rw [r18]; exact cr.2.2
      refine Tm_oxc (Tm_and (c_pushAll (σ := q.2.1) (L := lI (lI lZ 1 (-2147483648)) 2 (q.2.1.2.2.1 (pR18 b) (0 : Int32).toNatClampNeg)) y1 z5 (by show uN (q.2.1.2.2.1 (pR18 b) (0 : Int32).toNatClampNeg) ≤ _; rw [F0]; omega)) (c_pushAllY (σ := q.2.1) (L := lI (lI lZ 1 (-2147483648)) 2 (q.2.1.2.2.1 (pR18 b) (0 : Int32).toNatClampNeg)) (by show _ + uN (q.2.1.2.2.1 (pR18 b) (0 : Int32).toNatClampNeg) ≤ _; rw [F0, zy']; omega) z5.2)) (fun q2 s => by rw [s.1.1]) (fun q2 s => ?_)
      obtain ⟨s, sy⟩ := s
      have s0 : PuO q.2.1 (-2147483648) (tcF c 0) q2 := by rw [← F0]; exact s
      have sy' : uN (q2.2.1.1 1902) = 4 + tcF c 0 := by
        have y : uN (q2.2.1.1 1902) = uN (q.2.1.1 1902) + uN (q.2.1.2.2.1 (pR18 b) (0 : Int32).toNatClampNeg) := sy
        rw [y, zy', F0]
      obtain ⟨x1, x2⟩ := PuO_y s0 (by rw [sy', zy'])
      obtain ⟨s1, ⟨s2, s2'⟩, s3, s4, s5, s6, -⟩ := s0
      have e5 : q2.2.1.1 1905 = ω.1 1905 := by
        have f1 : q.2.1.1 1905 = ω.1 1905 := by
          rcases z.2.2.2.2.2.2 with y | y
          · exact y.2.2.2.2.2
          · exact y.2.2.2.1
        rcases s.2.2.2.2.2.2 with y | y
        · exact y.2.2.2.2.2.trans f1
        · exact y.2.2.2.1.trans f1
      have sm := Sm_t z3 s3
      generalize q2.2.1 = ψ at *
      have ej : ∀ j, ¬ (j = 1 ∨ j = 404 ∨ j = 1203 ∨ j = 1812 ∨ j = 1813 ∨ j = 1902 ∨ j = 1905) → ψ.1 j = ω.1 j := fun j hj => sm.1 j hj
      have e5' : ψ.1 1905 = 0 := by
        rw [e5, w1 1905 (by decide), a5]
      have f03 : ψ.1 1903 = 0 := by rw [ej 1903 (by decide), w1 1903 (by decide), a3]
      have f12 : ψ.1 1912 = 0 := by rw [ej 1912 (by decide), w1 1912 (by decide), a12]
      have f13 : ψ.1 1913 = 0 := by rw [ej 1913 (by decide), w1 1913 (by decide), a13]
      have f14 : ψ.1 1914 = 0 := by rw [ej 1914 (by decide), w1 1914 (by decide), a14]
      have f15 : ψ.1 1915 = 0 := by rw [ej 1915 (by decide), w15]
      have f00 : ψ.1 1900 = σ.1 (fP b 2) := by rw [ej 1900 (by decide), w1 1900 (by decide), a0]
      have f01 : ψ.1 1901 = 0 := by rw [ej 1901 (by decide), w1 1901 (by decide), a1]
      have f08 : ψ.1 1908 = 0 := by rw [ej 1908 (by decide), w1 1908 (by decide), a8]
      have rk' : ∀ k, ¬ (k = 3 ∨ (5 ≤ k ∧ k ≤ 11) ∨ k = 13 ∨ (15 ≤ k ∧ k ≤ 17) ∨ k = 20) → ψ.2.2.1 k = σ.2.2.1 k := fun k hk => by rw [sm.2.2.1 k hk, w2]
      have r3 : ψ.2.2.1 3 = σ.2.2.1 3 := by rw [s4.2, z4.2, w2]
      have nk : ∀ k, ¬ k = 20 → sN ψ k = sN σ k := fun k hk => by rw [sm.2.2.2.1.1 k hk, wn]
      have n20' : sN σ 20 ≤ sN ψ 20 := by rw [← wn]; exact sm.2.2.2.1.2
      have pe : ψ.2.2.2.2.2 = σ.2.2.2.2.2 := by rw [sm.2.2.2.2.2, w2]
      have pp : ∀ i, sPi ψ i = sPi σ i := fun i => by show ψ.2.2.2.2.2.2 i = _; rw [pe]
      have oj : ∀ j, ¬ (j = 1 ∨ j = 404 ∨ j = 1203 ∨ j = 1812 ∨ j = 1813 ∨ (1900 ≤ j ∧ j < 1916)) → ψ.1 j = σ.1 j := fun j hj => by rw [ej j (by omega), w1 j (by omega), o j (by omega)]
      have usE : usI ψ = usI σ := by
        unfold usI
        rw [pp, oj 2405 (by decide), oj 2403 (by decide), oj (100 * (28 + sPi σ 8) + 2) (by omega), oj (100 * (28 + sPi σ 8) + 13) (by omega)]
      have mf : MFr σ ψ := ⟨fun j hj => oj j (by omega), fun j hj => by rw [sm.2.1, wl j (by omega)], fun k hk => by
        unfold rwM at hk
        exact ⟨rk' k (by omega), nk k (by omega)⟩, by rw [sm.2.2.2.2.1, w2], by rw [pe]⟩
      have u0' : uN (0 : Int32) = 0 := rfl
      have mn : MIn c g l t KH KN K3 K4 (4 + tcF c 0) KH ψ := by
        refine ⟨HQ_ft m1 (by rw [s4.1, z4.1, w1 1 (by decide), o 1 (by decide)]) r3 (nk 3 (by decide)) (nk 1 (by decide)) (nk 2 (by decide)), ⟨⟨x1, s5, ?_⟩, ?_, ⟨?_, ?_, ?_⟩, ?_, ?_, ?_, ?_, ?_⟩, CtL_M m3 mf, ?_, SVK_g m5 (fun j h1 h2 => oj j (by omega)) (rk' 27 (by decide)) pp n20' (by rw [nk 21 (by decide)]; exact Nat.le_refl _), fun _ _ => rfl, ⟨Nat.le_refl _, by rw [sy']; exact Nat.le_refl _⟩, ?_, ?_, ?_, ?_⟩
        · rw [sy']
          intro j hj
          by_cases j4 : j < 4
          · have e : ψ.2.2.1 20 j = -268435456 := by
              rw [s6 j (by rw [zy']; exact j4)]
              exact y2 j (by rw [w02]; exact Nat.zero_le _) (by rw [w02]; omega)
            rw [e, KH_c j4]
            exact Rwc (Gw_rt g)
          · have e : ψ.2.2.1 20 j = -2147483648 := x2 j (by rw [zy']; omega) (by rw [zy']; exact hj)
            rw [e, KH_n (by omega)]
            exact Rwn (Gv_om g)
        · rw [rk' 23 (by decide), r3]; exact v2
        · rw [f13, u0']; exact Nat.zero_le _
        · rw [nk 21 (by decide)]; exact n21
        · rw [f13, u0']; exact fun j hj => absurd hj (Nat.not_lt_zero j)
        · rw [rk' 67 (by decide), r3]; exact v4
        · rw [pp]; exact v5
        · rw [usE, nk 26 (by decide)]; exact v6
        · rw [nk 26 (by decide)]; exact v7
        · rw [usE, rk' 26 (by decide), r3]; exact v8
        · rw [f12, u0']; exact trivial
        · rw [f03, u0', oj 1814 (by decide)]; omega
        · rw [f12, u0']; exact Nat.zero_le _
        · rw [f14, u0']; exact Nat.zero_le _
        · rw [f15, u0']; exact Nat.zero_le _
      refine Tm_some ⟨rfl, f03, ⟨?_, ?_⟩, mf, by show uN (ψ.1 1902) ≤ _; rw [sy']; omega, g, l, t, KH, KN, K3, K4, mn, fun _ => ⟨by show uN (ψ.1 1905) ≤ _; rw [e5', u0']; exact Nat.zero_le _, ?_⟩⟩
      · have ph := Ph_s (σ := σ) (σ' := ω) (by rw [w2])
        show q.2.2.1 + (q2.2.2.1 + 0) + PhC ψ ≤ _
        omega
      · have ph := Ph_s (σ := σ) (σ' := ω) (by rw [w2])
        show q.2.2.2 + (q2.2.2.2 + 0) + PhS ψ ≤ _
        omega
      · show RUN c KH (uN (ψ.1 1900)) (uN (ψ.1 1901)) (uN (ψ.1 1902)) (uN (ψ.1 1908)) 0
        rw [f00, f01, sy', f08, u0']
        exact ⟨0, tcF c 0, rk, 0, [], Vl (tcF c 0), ⟨p5, Vl_b _ (by omega)⟩, p4, SL_mkV (by omega) (by omega) (fun p h1 h2 => KH_n (by omega)), p1, Nat.le_refl _, p2, by decide, ⟨rfl, rfl, rfl, rfl, rfl, rfl⟩, by decide, p3, Nat.le_refl _, fun _ _ => rfl⟩
    refine Tm_suc (fun k => by rw [f_X3_restart]) ?_
    refine Tm_oP eb ?_
    refine Tm_suc (fun k => by rw [f_X3_restart]) ?_
    refine Tm_suc (fun k => by rw [f_X3_restart]) ?_
    refine Tm_suc (fun k => by rw [f_X3_restart]) ?_
    refine Tm_oP (b := b) eb (Tm_chk (by decide) ?_)
    refine Tm_suc (fun k => by rw [f_X3_restart]) ?_
    refine b5 _ _ rfl (fun j hj => ?_) rfl rfl rfl rfl rfl rfl rfl rfl rfl
    rw [uI_o (by omega), uI_o (by omega), uI_o (by omega), uI_o (by omega), uI_o (by omega), uI_o (by omega), uI_o (by omega), uI_o (by omega), uI_o (by omega), uI_o (by omega), uI_o (by omega), uI_o (by omega), uI_o (by omega), uI_o (by omega), uI_o (by omega)]
  exact Tm_mono (Tm_Bf main (fun k => kb_f_X3_restart _ _ _ _ by0)) (fun q z => ⟨z.1.1, z.1.2.1, z.1.2.2.1, z.1.2.2.2.1, z.2, z.1.2.2.2.2⟩)
theorem RsB_M (mi : MIn c g l t K K2 K3 K4 B KB σ) : RsB c g l t K3 K4 σ := by
  obtain ⟨m1, ⟨v1, v2, v3, v4, v5⟩, m3, m4, m5, m6, m7, m8, m9⟩ := mi
  exact ⟨m1, ⟨v1.2.1, v3.2.1, by omega⟩, v2, v4, v5, m3, m5⟩
theorem c_goBack {b : Bool} (ms : Mst c σ) (eb : sPr σ = some b) (en : EnP c σ b) (hn : uN (L.1 1) ≤ uN (σ.1 1903)) : Tm (fun k => f_X3_goBack k 0 L σ) (fun q => q.1.1 = 0 ∧ uN q.1.2 + uN (q.2.1.1 1903) ≤ uN (L.1 1) ∧ CoP σ q ∧ MFr σ q.2.1 ∧ Mst c q.2.1) := by
  obtain ⟨by0, sp0, g, l, t, K, K2, K3, K4, mi, rn⟩ := ms
  have m8 := mi.2.2.2.2.2.2.2.1
  refine Tm_suc (fun k => by rw [f_X3_goBack]) ?_
  refine Tm_op (c_newest (L := lI lZ 1 (L.1 1)) mi.2.2.2.2.1 (by show uN (L.1 1) < _; omega)) (fun q z => ?_)
  obtain ⟨z1, z2⟩ := z
  rw [z1]
  have z2' : NwA σ (uN (L.1 1)) q.1 := z2
  refine Tm_ite (fun e => ?_) (fun e => ?_)
  · refine Tm_oxc (c_restart (RsB_M mi) by0 eb en) (fun r s => by rw [s.1]) (fun r s => ?_)
    obtain ⟨s1, s2, ⟨s3, s3'⟩, s4, s5⟩ := s
    refine Tm_some ⟨rfl, ?_, ⟨by show r.2.2.1 + 0 + PhC r.2.1 ≤ _; omega, by show r.2.2.2 + 0 + PhS r.2.1 ≤ _; omega⟩, s4, s5⟩
    show uN (L.1 1) + uN (r.2.1.1 1903) ≤ uN (L.1 1)
    rw [s2]
    exact Nat.le_refl _
  · rcases z2' with y | ⟨a, y1, y2, y3⟩
    · exact absurd y e
    · refine Tm_mono (c_take mi by0 (L := lI L 2 q.1) (a := a) y1 y2 y3 hn) (fun r s => ?_)
      obtain ⟨s1, s2, s3, s4, s5, s6⟩ := s
      have s2' : r.1.2 = L.1 1 - r.2.1.1 1903 := s2
      have s3' : uN (r.2.1.1 1903) ≤ uN (L.1 1) := s3
      refine ⟨s1, ?_, s4, s5, s6⟩
      rw [s2', u_sub s3']
      omega
/-- between the house's calls, with a run or without -/
def Hmb (g : Nat → Prop) (l : List Nat) (t : Nat) (K4 : Nat → Option Int32) (σ : CS) : Prop := HQ g l t σ ∧ ((1024 ≤ sN σ 20 ∧ sN σ 20 ≤ 91000) ∧ sN σ 21 ≤ 44200 ∧ uN (σ.1 1814) ≤ 10240000) ∧ Rwk g (σ.2.2.1 3) K4 (σ.2.2.1 23) 3780 ∧ Rwk g (σ.2.2.1 3) KN (σ.2.2.1 67) 27 ∧ sN σ 26 ≤ 20000 ∧ (∀ i, i < 9 → sPi σ i < 9) ∧ ∀ i j, i < 9 → j < 9 → sPi σ i = sPi σ j → i = j
theorem Hmb_M (mi : MIn c g l t K K2 K3 K4 B KB σ) : Hmb g l t K4 σ := by
  obtain ⟨m1, ⟨v1, v2, v3, v4, v5, v6, v7, v8⟩, m3, m4, m5, m6, m7, m8, m9⟩ := mi
  exact ⟨m1, ⟨v1.2.1, v3.2.1, by omega⟩, v2, v4, v7, m5.2.1, m5.2.2.1⟩
theorem c_open {b : Bool} (hb : Hmb g l t K4 σ) (by0 : BY False σ) (h1 : L.2.2.1 1 = b) (ct : CtL c (uPr σ (some b))) (en : EnP c σ b) : Tm (fun k => f_X3_open__P k 0 L σ) (fun q => q.1 = (0, 0) ∧ q.2.1.1 1903 = 0 ∧ CoP σ q ∧ MFr (uL (uPr σ (some b)) 1817 (L.2.1 2)) q.2.1 ∧ Mst c q.2.1) := by
  obtain ⟨m1, ⟨n20, n21, n14⟩, v2, v4, v7, p9, pi⟩ := hb
  refine Tm_suc (fun k => by rw [f_X3_open__P]) ?_
  rw [h1]
  generalize hω : uL (uPr σ (some b)) 1817 (L.2.1 2) = ω
  have w1 : ω.1 = σ.1 := by rw [← hω]; rfl
  have wk : ω.2.2.1 = σ.2.2.1 := by rw [← hω]; rfl
  have wn : ∀ k, sN ω k = sN σ k := fun k => by rw [← hω]; rfl
  have wp : ∀ i, sPi ω i = sPi σ i := fun i => by rw [← hω]; rfl
  have we : sPr ω = some b := by rw [← hω]; rfl
  have wc : CtL c ω := by
    rw [← hω]
    exact ct
  have wb : BY False ω := by rw [← hω]; exact BY_L (BY_uPr by0)
  have w5 : ω.2.2.2.2.1 = σ.2.2.2.2.1 := by rw [← hω]; rfl
  refine Tm_op (Tm_By (c_empty (L := lZ) (σ := ω)) (fun k => kb_y_X9_empty _ _ _ _ wb)) (fun q z => ?_)
  obtain ⟨⟨z1, z2, z3, z4, z5⟩, byq⟩ := z
  generalize q.2 = τ at *
  have tn : ∀ k, sN τ k = sN σ k := fun k => by show τ.2.2.2.2.1 k = _; rw [z2]; exact wn k
  have tp : ∀ i, sPi τ i = sPi σ i := fun i => by show τ.2.2.2.2.2.2 i = _; rw [z2]; exact wp i
  have tk : ∀ k, τ.2.2.1 k = σ.2.2.1 k := fun k => by rw [z2, wk]
  have tj : ∀ j, ¬ (2403 ≤ j ∧ j ≤ 2408) → τ.1 j = σ.1 j := fun j hj => by rw [z1 j hj, w1]
  have us : uN (usI τ) = 0 := by
    unfold usI
    rw [if_pos z5, z3]; rfl
  have u0' : uN (0 : Int32) = 0 := rfl
  have te : sPr τ = some b := by
    show τ.2.2.2.2.2.1.2.2.1 = _
    rw [z2]; exact we
  have mft : MFr ω τ := ⟨fun j hj => z1 j (by omega), fun j hj => by rw [z2], fun k hk => ⟨by rw [z2], by show τ.2.2.2.2.1 k = _; rw [z2]⟩, by rw [z2], by rw [z2]⟩
  have rs : RsB c g l t KN K4 τ := by
    refine ⟨HQ_ft m1 (tj 1 (by decide)) (tk 3) (tn 3) (tn 1) (tn 2), ⟨by rw [tn]; exact n20, by rw [tn]; exact n21, by rw [tj 1814 (by decide)]; exact n14⟩, by rw [tk, tk]; exact v2, by rw [tk, tk]; exact v4, ⟨by rw [tp]; exact p9 8 (by decide), by rw [us]; exact Nat.zero_le _, by rw [tn]; exact v7, by rw [us]; exact fun j hj => absurd hj (Nat.not_lt_zero j)⟩, CtL_M wc mft, ⟨⟨⟨by rw [z4, u0']; exact Nat.zero_le _, by rw [z3, u0']; exact Nat.zero_le _⟩, fun i hi => ?_, fun hn => absurd z5 hn⟩, fun i hi => by rw [tp]; exact p9 i hi, fun i j hi hj e => ?_, fun i hi => ?_, fun hn => absurd z5 hn⟩⟩
    · rw [z4, u0'] at hi; exact absurd hi (Nat.not_lt_zero i)
    · rw [tp, tp] at e; exact pi i j hi hj e
    · rw [z4, u0'] at hi; exact absurd hi (Nat.not_lt_zero i)
  have fe : τ.1 (fP b 2) = σ.1 (fP b 2) := tj _ (by unfold fP; cases b <;> (show ¬ _; decide))
  refine Tm_oxc (c_restart rs byq te (by unfold EnP; rw [fe]; exact en)) (fun r s => by rw [s.1]) (fun r s => ?_)
  obtain ⟨s1, s2, ⟨s3, s3'⟩, s4, s5⟩ := s
  have ph := Ph_s (σ := σ) (σ' := τ) (by rw [z2, w5])
  exact Tm_some ⟨rfl, s2, ⟨by show r.2.2.1 + 0 + PhC r.2.1 ≤ _; omega, by show r.2.2.2 + 0 + PhS r.2.1 ≤ _; omega⟩, MFr_t mft s4, s5⟩
end CUO
