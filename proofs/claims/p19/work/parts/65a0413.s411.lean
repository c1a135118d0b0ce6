/-! The class: write. -/
section CTV
variable {g g' g2 : Nat → Prop} {l l' l2 : List Nat} {t t' t2 : Nat} {σ σ' σ2 τ τ' : CS} {L : LV} {x y z i : Int32} {M M' U U' : Nat → Int32} {K K' K0 K2 K2' K3 K4 K4' KB : Nat → Option Int32} {c : Ct} {B f0 u0 a T : Nat} {fs : List FrT} {u d : Nat} {r r' : List Nat} {pb nf nc sq rk pc P D j : Nat} {v : Int32}
theorem Wd_s (C : Nat → Int32) (p n : Nat) : Wd C p (n + 1) = Wd C p n + (if C (p + n) = 97 then 2 else 1) := rfl
/-- what a write stands on -/
def WrH (c : Ct) (g : Nat → Prop) (l : List Nat) (t : Nat) (K K2 K3 K4 : Nat → Option Int32) (B : Nat) (KB : Nat → Option Int32) (f0 u0 : Nat) (σ : CS) (fs : List FrT) (u d : Nat) (r : List Nat) (pb nf nc sq rk pc P D j : Nat) (v : Int32) (T : Nat) (L : LV) : Prop := Pre c g l t K K2 K3 K4 B KB f0 u0 σ fs u d r pb nf nc sq ∧ tcS c u0 ∧ (uN (L.1 1) = j ∧ L.1 2 = nI pc ∧ uN (tcC c (pc + 2)) = P ∧ uN (tcC c (pc + 1)) = D ∧ pc + 3 + P ≤ tcN c ∧ tcN c ≤ 36864) ∧ (1 ≤ d ∧ j < T ∧ SlW K (uN (σ.1 1901)) d r j ∧ D ≤ T ∧ Wd (tcC c) (pc + 3) P + 1 ≤ D) ∧ (∀ q, T ≤ q + D → q < T → K q = none ∨ K q = some mkT) ∧ Gv g (σ.2.2.1 20 j) ∧ Nx c (uN v) u d r rk ∧ uN (σ.1 1902) = T ∧ uN v = pc + 3 + P
/-- behind it -/
def WrQ (c : Ct) (B : Nat) (KB : Nat → Option Int32) (f0 u0 : Nat) (σ : CS) (m : Nat) (z : RS) : Prop := z.1.1 = 0 ∧ IO c B KB f0 u0 σ m ((0, 0), z.2.1, (z.2.2.1 + 0, z.2.2.2 + 0))
theorem wr_gv (H : WrH c g l t K K2 K3 K4 B KB f0 u0 σ fs u d r pb nf nc sq rk pc P D j v T L) : ∀ (τ : CS) (g' : Nat → Prop) (l' : List Nat) (t' : Nat) (K' : Nat → Option Int32), Wj c g' l' t' K' K2 K3 K4 B KB (Kc K T) (T - 1) T (uI σ 1900 v) τ → ∀ q, T - D ≤ q → q < uN (τ.1 1902) → Gv g' (τ.2.2.1 20 q) := by
  obtain ⟨p, cs, ⟨h1, h2, hP, hD, hc, hN⟩, ⟨d1, jl, hj, hd, hw⟩, hvl, gsl, nx, hT, evv⟩ := H
  have mi := p.1
  have ts := TyS_sp p.2.1
  obtain ⟨st1, st2, st3⟩ := mi.2.1.1
  have mB := mi.2.2.2.2.2.2.1.2
  rw [hT] at ts st1 mB
  intro τ g' l' t' K' w q q1 q2
  have s' := w.1.2.1.1
  by_cases y : q + 1 < T
  · have ke : K' q = K q := (w.2.1 q (by omega)).trans (if_pos (by omega))
    rcases hvl q (by omega) (by omega) with y | y
    · exact (s'.2.2 q (by omega)).2.1 (ke.trans y)
    · rcases (s'.2.2 q (by omega)).2.2 _ (ke.trans y) with z | z
      · have y : 4026531840 ≤ uN mkT := z.2
        exact absurd y (by decide)
      · exact (mk_t z).1
  · exact (s'.2.2 q (by omega)).2.1 (w.2.2.1 q (by omega))
theorem wr_9 (H : WrH c g l t K K2 K3 K4 B KB f0 u0 σ fs u d r pb nf nc sq rk pc P D j v T L) : ∀ (L' : LV) (τ : CS) (n1 n2 : Nat) (g' : Nat → Prop) (l' : List Nat) (t' : Nat) (K' : Nat → Option Int32), Wj c g' l' t' K' K2 K3 K4 B KB (Kc K T) (T - 1) T (uI σ 1900 v) τ → n1 + PhC τ ≤ PhC σ → n2 + PhS τ ≤ PhS σ → L'.1 4 = σ.1 1902 → Tm (fun k => f_X3_write k 9 L' τ) (fun q => WrQ c B KB f0 u0 σ (mu σ (qv nf sq rk)) (q.1, q.2.1, (n1 + q.2.2.1, n2 + q.2.2.2))) := by
  obtain ⟨p, cs, ⟨h1, h2, hP, hD, hc, hN⟩, ⟨d1, jl, hj, hd, hw⟩, hvl, gsl, nx, hT, evv⟩ := H
  have mi := p.1
  have ts := TyS_sp p.2.1
  obtain ⟨st1, st2, st3⟩ := mi.2.1.1
  have mB := mi.2.2.2.2.2.2.1.2
  rw [hT] at ts st1 mB
  have hk : ∀ p, T - 1 ≤ p → p < T → K p = none := fun q h1 h2 => SL_top _ _ _ p.2.1.1 q (by omega) (by omega)
  intro L' τ n1 n2 g' l' t' K' w k1 k2 m4
  have w' := Wj_dr (x := σ.1 1902) w (by omega) (by omega) (by have := w.2.2.2.1.2; omega)
  refine Tm_suc (fun k => by rw [f_X3_write]) ?_
  rw [m4]
  refine Tm_some ⟨rfl, ?_⟩
  have ph := Ph_s (σ := τ) (σ' := uI τ 1902 (σ.1 1902)) rfl
  subst hT
  show IO c B KB f0 u0 σ (mu σ (qv nf sq rk)) ((0, 0), uI τ 1902 (σ.1 1902), (n1 + 0 + 0, n2 + 0 + 0))
  exact Wj_fin (n := 0) p hk w' (fun _ => rfl) (by omega) (by omega) nx
theorem wr_6 (H : WrH c g l t K K2 K3 K4 B KB f0 u0 σ fs u d r pb nf nc sq rk pc P D j v T L) : ∀ (L' : LV) (τ : CS) (n1 n2 : Nat) (g' : Nat → Prop) (l' : List Nat) (t' : Nat) (K' : Nat → Option Int32), Wj c g' l' t' K' K2 K3 K4 B KB (Kc K T) (T - 1) T (uI σ 1900 v) τ → n1 + PhC τ ≤ PhC σ → n2 + PhS τ ≤ PhS σ → L'.1 4 = σ.1 1902 → L'.1 1 = L.1 1 → (τ.1 1813 = 0 → T + 1 ≤ uN (τ.1 1902)) → Tm (fun k => f_X3_write k 6 L' τ) (fun q => WrQ c B KB f0 u0 σ (mu σ (qv nf sq rk)) (q.1, q.2.1, (n1 + q.2.2.1, n2 + q.2.2.2))) := by
  have H0 := H
  obtain ⟨p, cs, ⟨h1, h2, hP, hD, hc, hN⟩, ⟨d1, jl, hj, hd, hw⟩, hvl, gsl, nx, hT, evv⟩ := H
  have mi := p.1
  have ts := TyS_sp p.2.1
  obtain ⟨st1, st2, st3⟩ := mi.2.1.1
  have mB := mi.2.2.2.2.2.2.1.2
  rw [hT] at ts st1 mB
  have hk : ∀ p, T - 1 ≤ p → p < T → K p = none := fun q h1 h2 => SL_top _ _ _ p.2.1.1 q (by omega) (by omega)
  have u1 : uN (1 : Int32) = 1 := rfl
  intro L' τ n1 n2 g' l' t' K' w k1 k2 m4 m1 sp
  refine Tm_suc (fun k => by rw [f_X3_write]) ?_
  refine Tm_ite (fun c13 => ?_) (fun _ => wr_9 H0 _ _ _ _ _ _ _ _ w k1 k2 m4)
  have sp1 := sp c13
  have s' := w.1.2.1.1
  have e1 : uN (τ.1 1902 - 1) = uN (τ.1 1902) - 1 := by rw [u_sub (by omega), u1]
  refine Tm_chk (u_in (by omega) (by omega)) ?_
  have gz : Gv g' (τ.2.2.1 20 (τ.1 1902 - 1).toNatClampNeg) := by rw [u_cl (by omega), e1]; exact (s'.2.2 _ (by omega)).2.1 (w.2.2.1 _ (by omega))
  refine Tm_op (c_assignX (j := j) w.1.1 (by show uN (L'.1 1) = j; rw [m1]; exact h1) (by omega) s'.2.1.2 gz (s'.2.2 j (by omega)).1) (fun q3 z3 => ?_)
  rcases z3 with e | ⟨x, y, e⟩
  · rw [e]
    refine wr_9 H0 _ _ _ _ g' l' t' K' ?_ (by rw [(Ph_s (σ := τ) (σ' := uI (uI τ 1813 6) 1812 1) rfl).1]; exact k1) (by rw [(Ph_s (σ := τ) (σ' := uI (uI τ 1813 6) 1812 1) rfl).2]; exact k2) m4
    obtain ⟨w1, w2, w3, w4, w5, w6, w7, w8, w9⟩ := w
    have ue : ∀ j, ¬ (j = 1812 ∨ j = 1813) → (uI (uI τ 1813 6) 1812 1).1 j = τ.1 j := fun j hj => by
      show upd (upd τ.1 1813 6) 1812 1 j = _
      rw [upd_other (by omega), upd_other (by omega)]
    have mm := MIn_fl (σ' := uI (uI τ 1813 6) 1812 1) w1 rfl (fun j hj => ue j (by omega)) (by rw [ue 1902 (by decide)]; exact w1.2.2.2.2.2.2.1.2) (by rw [ue 1902 (by decide)]; exact Nat.le_refl _)
    exact ⟨mm.1, w2, w3, w4, fun j hj => (ue j (by omega)).trans (w5 j hj), MFr_t w6 (Md_M mm.2), fun z => absurd z (by show ¬ (1 : Int32) = 0; decide), fun z => absurd z (by show ¬ (6 : Int32) = 0; decide), fun _ => by show ¬ (6 : Int32) = 0; decide⟩
  · rw [e]
    refine Tm_suc (fun k => by rw [f_X3_write]) ?_
    rw [m4]
    refine Tm_some ⟨rfl, ?_⟩
    subst hT
    exact Wj_as p cs hk w jl hj gz k1 k2 nx
theorem wr_5 (H : WrH c g l t K K2 K3 K4 B KB f0 u0 σ fs u d r pb nf nc sq rk pc P D j v T L) : ∀ (m : Nat) (L' : LV) (τ : CS) (n1 n2 : Nat) (g' : Nat → Prop) (l' : List Nat) (t' : Nat) (K' : Nat → Option Int32), Wj c g' l' t' K' K2 K3 K4 B KB (Kc K T) (T - 1) T (uI σ 1900 v) τ → n1 + PhC τ ≤ PhC σ → n2 + PhS τ ≤ PhS σ → L'.1 4 = σ.1 1902 → L'.1 1 = L.1 1 → L'.1 2 = L.1 2 → L'.1 6 = tcC c (pc + 2) → (τ.1 1813 = 0 → T + m + 1 ≤ uN (τ.1 1902)) → m ≤ P → L'.1 7 = nI m - 1 → (1 ≤ m → τ.1 1813 = 0 → uN (L'.1 5) = T - D + Wd (tcC c) (pc + 3) (min m (P - 1))) → Tm (fun k => f_X3_write k 5 L' τ) (fun q => WrQ c B KB f0 u0 σ (mu σ (qv nf sq rk)) (q.1, q.2.1, (n1 + q.2.2.1, n2 + q.2.2.2))) := by
  have H0 := H
  obtain ⟨p, cs, ⟨h1, h2, hP, hD, hc, hN⟩, ⟨d1, jl, hj, hd, hw⟩, hvl, gsl, nx, hT, evv⟩ := H
  have mi := p.1
  have ts := TyS_sp p.2.1
  obtain ⟨st1, st2, st3⟩ := mi.2.1.1
  have mB := mi.2.2.2.2.2.2.1.2
  rw [hT] at ts st1 mB
  have u1 : uN (1 : Int32) = 1 := rfl
  have u2 : uN (2 : Int32) = 2 := rfl
  have u3 : uN (3 : Int32) = 3 := rfl
  have e2 : uN (L.1 2) = pc := by rw [h2, u_n (by omega)]
  have e23 : uN (L.1 2 + 3) = pc + 3 := by rw [u_add (by omega), e2, u3]
  intro m
  induction m with
  | zero =>
    intro L' τ n1 n2 g' l' t' K' w k1 k2 m4 m1 m2 m6 sp mP m7 m5
    refine Tm_suc (fun k => by rw [f_X3_write]) ?_
    refine Tm_yes (by rw [m7]; decide) ?_
    exact wr_6 H0 _ _ _ _ _ _ _ _ w k1 k2 m4 m1 (fun z => by have := sp z; omega)
  | succ m ih =>
    intro L' τ n1 n2 g' l' t' K' w k1 k2 m4 m1 m2 m6 sp mP m7 m5
    have e7 : uN (L'.1 7) = m := by rw [m7, u_sub (by rw [u_n (by omega), u1]; omega), u_n (by omega), u1]; omega
    refine Tm_suc (fun k => by rw [f_X3_write]) ?_
    refine Tm_no (by rw [u_neg]; omega) ?_
    refine Tm_ite (fun c13 => ?_) (fun c13 => ?_)
    · have sp1 := sp c13
      refine Tm_oxk (Q := WrQ c B KB f0 u0 σ (mu σ (qv nf sq rk))) (c_makeRoom w.1.1 w.1.2.1) (fun q z => by rw [z.1]) (fun q3 z3 => ?_)
      obtain ⟨g3, l3, t3, w3⟩ := Wj_rm w z3
      have f3 := z3.2.2.1.1.1
      have sp3 : T + m + 2 ≤ uN (q3.2.1.1 1902) := by rw [f3 1902 (by decide)]; omega
      have z13 : q3.2.1.1 1813 = 0 := (f3 1813 (by decide)).trans c13
      have k31 := z3.2.1.1
      have k32 := z3.2.1.2
      obtain ⟨b, eb, _⟩ := w3.1.2.2.1
      have cr := Ct_row w3.1.2.2.1 eb
      have ei : uN (L'.1 2 + 3 + L'.1 7) = pc + 3 + m := by rw [m2, u_add (by omega), e23, e7]
      have v5 := m5 (by omega) c13
      have mo := Wd_mo (tcC c) (pc + 3) (m := min (m + 1) (P - 1)) (n := P) (by omega)
      have mo2 := Wd_mo (tcC c) (pc + 3) (m := m) (n := P) (by omega)
      -- with the place of its values
      have b8 : ∀ L2 : LV, L2.1 4 = σ.1 1902 → L2.1 1 = L.1 1 → L2.1 2 = L.1 2 → L2.1 6 = tcC c (pc + 2) → L2.1 7 = L'.1 7 → uN (L2.1 100) = T - D + Wd (tcC c) (pc + 3) m → Tm (fun k => f_X3_write k 8 L2 q3.2.1) (fun q => WrQ c B KB f0 u0 σ (mu σ (qv nf sq rk)) (q.1, q.2.1, (n1 + q3.2.2.1 + q.2.2.1, n2 + q3.2.2.2 + q.2.2.2))) := by
        intro L2 o4 o1 o2 o6 o7 o100
        have es : uN (q3.2.1.1 1902 - 1) = uN (q3.2.1.1 1902) - 1 := by rw [u_sub (by omega), u1]
        have es2 : uN (q3.2.1.1 1902 - 1 - 1) = uN (q3.2.1.1 1902) - 2 := by rw [u_sub (by omega), es, u1]; omega
        have e101 : uN (L2.1 100 + 1) = uN (L2.1 100) + 1 := u_inc (by omega)
        have wd := Wj_dr (x := q3.2.1.1 1902 - 1) w3 (by omega) (by omega) (by omega)
        have s3 := w3.1.2.1.1
        refine Tm_suc (fun k => by rw [f_X3_write]) ?_
        refine Tm_chk (u_in (by show uN (q3.2.1.1 1902 - 1 - 1) < sN q3.2.1 20; omega) (by show sN q3.2.1 20 ≤ _; omega)) ?_
        refine Tm_chk (u_in (by show uN (L2.1 100) < sN q3.2.1 20; omega) (by show sN q3.2.1 20 ≤ _; omega)) ?_
        refine Tm_chk (u_in (by show uN (L2.1 100 + 1) < sN q3.2.1 20; omega) (by show sN q3.2.1 20 ≤ _; omega)) ?_
        refine Tm_chk (u_in (by show uN (q3.2.1.1 1902 - 1) < sN q3.2.1 20; omega) (by show sN q3.2.1 20 ≤ _; omega)) ?_
        have ga1 : Gv g3 (q3.2.1.2.2.1 20 (q3.2.1.1 1902 - 1 - 1).toNatClampNeg) := by rw [u_cl (by omega), es2]; exact wr_gv H0 _ _ _ _ _ w3 _ (by omega) (by omega)
        have ga2 : Gv g3 (q3.2.1.2.2.1 20 (L2.1 100).toNatClampNeg) := by rw [u_cl (by omega)]; exact wr_gv H0 _ _ _ _ _ w3 _ (by omega) (by omega)
        have ga3 : Gv g3 (q3.2.1.2.2.1 20 (L2.1 100 + 1).toNatClampNeg) := by rw [u_cl (by omega), e101]; exact wr_gv H0 _ _ _ _ _ w3 _ (by omega) (by omega)
        have ga4 : Gv g3 (q3.2.1.2.2.1 20 (q3.2.1.1 1902 - 1).toNatClampNeg) := by rw [u_cl (by omega), es]; exact wr_gv H0 _ _ _ _ _ w3 _ (by omega) (by omega)
        refine Tm_op (c_written wd.1.1 ga1 ga2 ga3 ga4) (fun q9 z9 => ?_)
        obtain ⟨g9, l9, t9, ga, vv⟩ := z9
        have w9 := Wj_ga wd ga
        have s9 := w9.1.2.1.1
        have a9 := ga.2.2.2.2.1
        have sp9 : T + m + 1 ≤ uN (q9.2.1 1902) := by rw [a9 1902 (by decide)]; show _ ≤ uN (q3.2.1.1 1902 - 1); omega
        have gv9 : Gv g9 q9.1 := vv.elim id Gv_rw
        refine Tm_op (c_replace2 w9.1.1 gv9 (by omega) s9.1 s9.2.1.2 (w9.2.2.2.2.2.2.2.1 (by rw [a9 1813 (by decide)]; exact z13))) (fun q10 z10 => ?_)
        have w10 := Wj_re w9 gv9 (by omega) z10.1 z10.2
        have sp10 : T + m + 1 ≤ uN (q10.2.1 1902) := by rw [z10.1.2.2.1]; exact sp9
        have ph0 := Ph_s (σ := q3.2.1) (σ' := uI q3.2.1 1902 (q3.2.1.1 1902 - 1)) rfl
        have ph1 := Ph_s (σ := uI q3.2.1 1902 (q3.2.1.1 1902 - 1)) (σ' := q9.2) (by rw [ga.2.2.2.2.2.2.2])
        have ph2 := Ph_s (σ := q9.2) (σ' := q10.2) (by rw [z10.1.2.1.2.2])
        refine ih _ _ _ _ _ _ _ _ w10 (by omega) (by omega) o4 o1 o2 o6 (fun _ => sp10) (by omega) ?_ (fun m0 _ => ?_)
        · show L2.1 7 + -1 = nI m - 1
          rw [o7, m7]
          have e : nI (m + 1) = nI m + 1 := u_eq.2 (by rw [u_inc (by rw [u_n (by omega)]; omega), u_n (by omega), u_n (by omega)])
          rw [e, Int32.add_sub_cancel]
          exact (Int32.sub_eq_add_neg _ _).symm
        · show uN (L2.1 100) = T - D + Wd (tcC c) (pc + 3) (min m (P - 1))
          rw [o100, show min m (P - 1) = m by omega]
      refine Tm_oP eb ?_
      refine Tm_chk (u_in (by rw [ei, cr.2.1]; omega) (by rw [cr.2.1]; omega)) ?_
      rw [cr.1, u_cl (x := L'.1 2 + 3 + L'.1 7) (by omega), ei]
      have e61 : uN (L'.1 6 - 1) = P - 1 := by rw [m6, u_sub (by omega), hP, u1]
      refine Tm_ite (fun cq => ?_) (fun cq => ?_)
      · rw [u_eq, e7, e61] at cq
        refine b8 _ m4 m1 m2 m6 rfl ?_
        show uN (L'.1 5) = _
        rw [v5, show min (m + 1) (P - 1) = m by omega]
      · rw [u_eq, e7, e61] at cq
        have v5' : uN (L'.1 5) = T - D + (Wd (tcC c) (pc + 3) m + (if tcC c (pc + 3 + m) = 97 then 2 else 1)) := by
          rw [v5, show min (m + 1) (P - 1) = m + 1 by omega, Wd_s]
        have b11 : ∀ L2 : LV, L2.1 4 = σ.1 1902 → L2.1 1 = L.1 1 → L2.1 2 = L.1 2 → L2.1 6 = tcC c (pc + 2) → L2.1 7 = L'.1 7 → L2.1 101 = L'.1 5 → uN (L2.1 100) = (if tcC c (pc + 3 + m) = 97 then 2 else 1) → Tm (fun k => f_X3_write k 11 L2 q3.2.1) (fun q => WrQ c B KB f0 u0 σ (mu σ (qv nf sq rk)) (q.1, q.2.1, (n1 + q3.2.2.1 + q.2.2.1, n2 + q3.2.2.2 + q.2.2.2))) := by
          intro L2 o4 o1 o2 o6 o7 o101 o100
          refine Tm_suc (fun k => by rw [f_X3_write]) ?_
          refine b8 _ o4 o1 o2 o6 o7 ?_
          show uN (L2.1 101 - L2.1 100) = _
          rw [o101, u_sub (by omega), o100, v5']
          omega
        refine Tm_suc (fun k => by rw [f_X3_write]) ?_
        refine Tm_ite (fun c97 => ?_) (fun c97 => ?_)
        · refine b11 _ m4 m1 m2 m6 rfl rfl ?_
          have c97' : tcC c (pc + 3 + m) = 97 := c97
          rw [if_pos c97']; rfl
        · refine Tm_suc (fun k => by rw [f_X3_write]) ?_
          refine b11 _ m4 m1 m2 m6 rfl rfl ?_
          have c97' : ¬ tcC c (pc + 3 + m) = 97 := c97
          rw [if_neg c97']; rfl
    · refine wr_6 H0 _ _ _ _ _ _ _ _ w k1 k2 m4 m1 (fun z => absurd z c13)
theorem wr_2 (H : WrH c g l t K K2 K3 K4 B KB f0 u0 σ fs u d r pb nf nc sq rk pc P D j v T L) : ∀ (L' : LV) (τ : CS) (n1 n2 : Nat) (g' : Nat → Prop) (l' : List Nat) (t' : Nat) (K' : Nat → Option Int32), Wj c g' l' t' K' K2 K3 K4 B KB (Kc K T) (T - 1) T (uI σ 1900 v) τ → n1 + PhC τ ≤ PhC σ → n2 + PhS τ ≤ PhS σ → L'.1 4 = σ.1 1902 → L'.1 1 = L.1 1 → L'.1 2 = L.1 2 → L'.1 6 = tcC c (pc + 2) → (τ.1 1813 = 0 → T + P ≤ uN (τ.1 1902) ∨ uN (τ.1 1902) = 91000) → (1 ≤ P → τ.1 1813 = 0 → uN (L'.1 5) = T - D + Wd (tcC c) (pc + 3) (P - 1)) → Tm (fun k => f_X3_write k 2 L' τ) (fun q => WrQ c B KB f0 u0 σ (mu σ (qv nf sq rk)) (q.1, q.2.1, (n1 + q.2.2.1, n2 + q.2.2.2))) := by
  have H0 := H
  obtain ⟨p, cs, ⟨h1, h2, hP, hD, hc, hN⟩, ⟨d1, jl, hj, hd, hw⟩, hvl, gsl, nx, hT, evv⟩ := H
  have mi := p.1
  have ts := TyS_sp p.2.1
  obtain ⟨st1, st2, st3⟩ := mi.2.1.1
  have mB := mi.2.2.2.2.2.2.1.2
  rw [hT] at ts st1 mB
  have u1 : uN (1 : Int32) = 1 := rfl
  intro L' τ n1 n2 g' l' t' K' w k1 k2 m4 m1 m2 m6 sp m5
  have s' := w.1.2.1.1
  have T4 := w.2.2.2.1.2
  have e4 : uN (L'.1 4 - 1) = T - 1 := by rw [m4, u_sub (by omega), u1, hT]
  refine Tm_suc (fun k => by rw [f_X3_write]) ?_
  refine Tm_chk (u_in (by omega) (by omega)) ?_
  rw [u_cl (by omega), e4]
  refine Tm_oxk (Q := WrQ c B KB f0 u0 σ (mu σ (qv nf sq rk))) (c_push2 s'.1 s'.2.1) (fun q z => by rw [z.1.1]) (fun q3 z3 => ?_)
  have w3 := Wj_pu w (wr_gv H0 _ _ _ _ _ w (T - 1) (by omega) (by omega)) z3.1 z3.2
  have k31 := z3.1.2.1.1
  have k32 := z3.1.2.1.2
  have s9 := z3.1.2.2.2.2.1.2
  have s3 := w3.1.2.1.1.1
  have t13 : q3.2.1.1 1813 = 0 → τ.1 1813 = 0 := by
    intro z
    rcases z3.1.2.2.2.2.2.2 with y | y
    · rw [y.2.2.2.2.1] at z; exact z
    · rcases z3.2 with y2 | y2
      · rw [y.1] at y2
        omega
      · exact absurd z y2.1
  refine wr_5 H0 P _ _ _ _ _ _ _ _ w3 (by omega) (by omega) m4 m1 m2 m6 (fun z => ?_) (Nat.le_refl _) ?_ (fun m0 z => ?_)
  · rcases z3.2 with y | y
    · rcases sp (t13 z) with x | x
      · omega
      · omega
    · exact absurd z y.1
  · show L'.1 6 - 1 = nI P - 1
    rw [m6, u_of (tcC c (pc + 2)), hP]
  · show uN (L'.1 5) = _
    rw [m5 m0 (t13 z), show min P (P - 1) = P - 1 by omega]
theorem wr_1 (H : WrH c g l t K K2 K3 K4 B KB f0 u0 σ fs u d r pb nf nc sq rk pc P D j v T L) : 1 ≤ P → ∀ (m : Nat) (L' : LV) (τ : CS) (n1 n2 : Nat) (g' : Nat → Prop) (l' : List Nat) (t' : Nat) (K' : Nat → Option Int32), Wj c g' l' t' K' K2 K3 K4 B KB (Kc K T) (T - 1) T (uI σ 1900 v) τ → n1 + PhC τ ≤ PhC σ → n2 + PhS τ ≤ PhS σ → L'.1 4 = σ.1 1902 → L'.1 1 = L.1 1 → L'.1 2 = L.1 2 → L'.1 6 = tcC c (pc + 2) → uN (L'.1 7) + m = P - 1 → (τ.1 1813 = 0 → T + 1 ≤ uN (τ.1 1902) ∧ (T + 1 + uN (L'.1 7) ≤ uN (τ.1 1902) ∨ uN (τ.1 1902) = 91000)) → uN (L'.1 5) = T - D + Wd (tcC c) (pc + 3) (uN (L'.1 7)) → Tm (fun k => f_X3_write k 1 L' τ) (fun q => WrQ c B KB f0 u0 σ (mu σ (qv nf sq rk)) (q.1, q.2.1, (n1 + q.2.2.1, n2 + q.2.2.2))) := by
  have H0 := H
  obtain ⟨p, cs, ⟨h1, h2, hP, hD, hc, hN⟩, ⟨d1, jl, hj, hd, hw⟩, hvl, gsl, nx, hT, evv⟩ := H
  have mi := p.1
  have ts := TyS_sp p.2.1
  obtain ⟨st1, st2, st3⟩ := mi.2.1.1
  have mB := mi.2.2.2.2.2.2.1.2
  rw [hT] at ts st1 mB
  have u1 : uN (1 : Int32) = 1 := rfl
  have u2 : uN (2 : Int32) = 2 := rfl
  have u3 : uN (3 : Int32) = 3 := rfl
  have e2 : uN (L.1 2) = pc := by rw [h2, u_n (by omega)]
  have e23 : uN (L.1 2 + 3) = pc + 3 := by rw [u_add (by omega), e2, u3]
  intro P1 m
  induction m with
  | zero =>
    intro L' τ n1 n2 g' l' t' K' w k1 k2 m4 m1 m2 m6 m7 sp m5
    have e61 : uN (L'.1 6 - 1) = P - 1 := by rw [m6, u_sub (by omega), hP, u1]
    refine Tm_suc (fun k => by rw [f_X3_write]) ?_
    refine Tm_yes (by rw [u_le (by omega) (by omega)]; omega) ?_
    refine wr_2 H0 _ _ _ _ _ _ _ _ w k1 k2 m4 m1 m2 m6 (fun z => ?_) (fun _ _ => ?_)
    · rcases (sp z).2 with x | x
      · left; omega
      · right; exact x
    · rw [m5, show uN (L'.1 7) = P - 1 by omega]
  | succ m ih =>
    intro L' τ n1 n2 g' l' t' K' w k1 k2 m4 m1 m2 m6 m7 sp m5
    have e61 : uN (L'.1 6 - 1) = P - 1 := by rw [m6, u_sub (by omega), hP, u1]
    refine Tm_suc (fun k => by rw [f_X3_write]) ?_
    refine Tm_no (by rw [u_le (by omega) (by omega)]; omega) ?_
    refine Tm_ite (fun c13 => ?_) (fun c13 => ?_)
    · have sp1 := sp c13
      refine Tm_oxk (Q := WrQ c B KB f0 u0 σ (mu σ (qv nf sq rk))) (c_makeRoom w.1.1 w.1.2.1) (fun q z => by rw [z.1]) (fun q3 z3 => ?_)
      obtain ⟨g3, l3, t3, w3⟩ := Wj_rm w z3
      have f3 := z3.2.2.1.1.1
      have sp3 : uN (q3.2.1.1 1902) = uN (τ.1 1902) := by rw [f3 1902 (by decide)]
      have z13 : q3.2.1.1 1813 = 0 := (f3 1813 (by decide)).trans c13
      have k31 := z3.2.1.1
      have k32 := z3.2.1.2
      obtain ⟨b, eb, _⟩ := w3.1.2.2.1
      have cr := Ct_row w3.1.2.2.1 eb
      have s3 := w3.1.2.1.1
      have ei : uN (L'.1 2 + 3 + L'.1 7) = pc + 3 + uN (L'.1 7) := by rw [m2, u_add (by omega), e23]
      have mo := Wd_mo (tcC c) (pc + 3) (m := uN (L'.1 7)) (n := P) (by omega)
      refine Tm_oP eb ?_
      refine Tm_chk (u_in (by rw [ei, cr.2.1]; omega) (by rw [cr.2.1]; omega)) ?_
      refine Tm_oxk (Q := WrQ c B KB f0 u0 σ (mu σ (qv nf sq rk))) (c_push2 s3.1 s3.2.1) (fun q z => by rw [z.1.1]) (fun q6 z6 => ?_)
      have w6 := Wj_pu w3 (Gv_om g3) z6.1 z6.2
      have s6 := w6.1.2.1.1
      have k61 := z6.1.2.1.1
      have k62 := z6.1.2.1.2
      have s9 := z6.1.2.2.2.2.1.2
      have sp6 : T + 1 ≤ uN (q6.2.1.1 1902) ∧ (T + 2 + uN (L'.1 7) ≤ uN (q6.2.1.1 1902) ∨ uN (q6.2.1.1 1902) = 91000) := by
        rcases z6.1.2.2.2.2.2.2 with y | y
        · have y1 := y.1
          have y2 := y.2.1
          rcases sp1.2 with x | x
          · exact ⟨by omega, Or.inl (by omega)⟩
          · omega
        · have y1 := y.1
          rcases z6.2 with y2 | y2
          · rw [y1] at y2
            omega
          · rw [y1]
            exact ⟨by omega, Or.inr (by omega)⟩
      have w05 : uN (q6.2.1.1 1905) ≤ 60000 := by
        have h8 := w3.2.2.2.2.2.2.2.1 z13
        rcases z6.1.2.2.2.2.2.2 with y | y
        · rw [y.2.2.2.2.2]; exact h8
        · rw [y.2.2.2.1]; exact h8
      have e1 : uN (q6.2.1.1 1902 - 2) = uN (q6.2.1.1 1902) - 2 := by rw [u_sub (by omega), u2]
      have e31 : uN (L'.1 5 + 1) = uN (L'.1 5) + 1 := u_inc (by omega)
      refine Tm_chk (u_in (by omega) (by omega)) ?_
      refine Tm_chk (u_in (by omega) (by omega)) ?_
      refine Tm_chk (u_in (by omega) (by omega)) ?_
      rw [cr.1, u_cl (x := L'.1 2 + 3 + L'.1 7) (by omega), ei, u_cl (x := q6.2.1.1 1902 - 2) (by omega), e1, u_cl (x := L'.1 5) (by omega), u_cl (x := L'.1 5 + 1) (by omega), e31]
      refine Tm_op (c_part w6.1.1 (wr_gv H0 _ _ _ _ _ w6 (uN (q6.2.1.1 1902) - 2) (by omega) (by omega)) (wr_gv H0 _ _ _ _ _ w6 (uN (L'.1 5)) (by omega) (by omega)) (wr_gv H0 _ _ _ _ _ w6 (uN (L'.1 5) + 1) (by omega) (by omega))) (fun q9 z9 => ?_)
      obtain ⟨g9, l9, t9, ga, vv⟩ := z9
      have w9 := Wj_ga w6 ga
      have s9 := w9.1.2.1.1
      have a9 := ga.2.2.2.2.1
      have sp9 : uN (q9.2.1 1902) = uN (q6.2.1.1 1902) := by rw [a9 1902 (by decide)]
      have gv9 : Gv g9 q9.1 := vv.elim id Gv_rw
      refine Tm_op (c_replace2 w9.1.1 gv9 (by omega) s9.1 s9.2.1.2 (by rw [a9 1905 (by decide)]; exact w05)) (fun q10 z10 => ?_)
      have w10 := Wj_re w9 gv9 (by omega) z10.1 z10.2
      have sp10 : uN (q10.2.1 1902) = uN (q6.2.1.1 1902) := by rw [z10.1.2.2.1]; exact sp9
      have ph1 := Ph_s (σ := q6.2.1) (σ' := q9.2) (by rw [ga.2.2.2.2.2.2.2])
      have ph2 := Ph_s (σ := q9.2) (σ' := q10.2) (by rw [z10.1.2.1.2.2])
      have b4 : ∀ L2 : LV, L2.1 4 = σ.1 1902 → L2.1 1 = L.1 1 → L2.1 2 = L.1 2 → L2.1 6 = tcC c (pc + 2) → L2.1 7 = L'.1 7 → L2.1 101 = L'.1 5 → uN (L2.1 100) = (if tcC c (pc + 3 + uN (L'.1 7)) = 97 then 2 else 1) → Tm (fun k => f_X3_write k 4 L2 q10.2) (fun q => WrQ c B KB f0 u0 σ (mu σ (qv nf sq rk)) (q.1, q.2.1, (n1 + q3.2.2.1 + q6.2.2.1 + q.2.2.1, n2 + q3.2.2.2 + q6.2.2.2 + q.2.2.2))) := by
        intro L2 o4 o1 o2 o6 o7 o101 o100
        have le2 : uN (L2.1 100) ≤ 2 := by rw [o100]; split <;> omega
        have e71 : uN (L2.1 7 + 1) = uN (L'.1 7) + 1 := by rw [o7, u_inc (by omega)]
        refine Tm_suc (fun k => by rw [f_X3_write]) ?_
        refine ih _ _ _ _ _ _ _ _ w10 (by omega) (by omega) o4 o1 o2 o6 ?_ (fun _ => ?_) ?_
        · show uN (L2.1 7 + 1) + m = P - 1
          omega
        · show T + 1 ≤ uN (q10.2.1 1902) ∧ (T + 1 + uN (L2.1 7 + 1) ≤ uN (q10.2.1 1902) ∨ uN (q10.2.1 1902) = 91000)
          rw [sp10, e71]
          exact ⟨sp6.1, sp6.2.imp (fun x => by omega) id⟩
        · show uN (L2.1 101 + L2.1 100) = T - D + Wd (tcC c) (pc + 3) (uN (L2.1 7 + 1))
          rw [e71, o101, u_add (by omega), o100, m5]
          rw [Wd_s]
          omega
      refine Tm_ite (fun c97 => ?_) (fun c97 => ?_)
      · refine b4 _ m4 m1 m2 m6 rfl rfl ?_
        rw [if_pos c97]; rfl
      · refine Tm_suc (fun k => by rw [f_X3_write]) ?_
        refine b4 _ m4 m1 m2 m6 rfl rfl ?_
        rw [if_neg c97]; rfl
    · exact wr_2 H0 _ _ _ _ _ _ _ _ w k1 k2 m4 m1 m2 m6 (fun z => absurd z c13) (fun _ z => absurd z c13)
theorem c_writeM (p : Pre c g l t K K2 K3 K4 B KB f0 u0 σ fs u d r pb nf nc sq) (cs : tcS c u0) (h1 : uN (L.1 1) = j) (h2 : L.1 2 = nI pc) (hP : uN (tcC c (pc + 2)) = P) (hD : uN (tcC c (pc + 1)) = D) (hc : pc + 3 + P ≤ tcN c) (hN : tcN c ≤ 36864) (d1 : 1 ≤ d) (jl : j < uN (σ.1 1902)) (hj : SlW K (uN (σ.1 1901)) d r j) (hd : D ≤ uN (σ.1 1902)) (hw : Wd (tcC c) (pc + 3) P + 1 ≤ D) (hvl : ∀ q, uN (σ.1 1902) ≤ q + D → q < uN (σ.1 1902) → K q = none ∨ K q = some mkT) (gsl : Gv g (σ.2.2.1 20 j)) (nx : Nx c (pc + 3 + P) u d r rk) : Tm (fun k => f_X3_write k 0 L σ) (WrQ c B KB f0 u0 σ (mu σ (qv nf sq rk))) := by
  have mi := p.1
  have ts := TyS_sp p.2.1
  obtain ⟨st1, st2, st3⟩ := mi.2.1.1
  have u1 : uN (1 : Int32) = 1 := rfl
  have u2 : uN (2 : Int32) = 2 := rfl
  have u3 : uN (3 : Int32) = 3 := rfl
  have e2 : uN (L.1 2) = pc := by rw [h2, u_n (by omega)]
  have e21 : uN (L.1 2 + 1) = pc + 1 := by rw [u_inc (by omega), e2]
  have e22 : uN (L.1 2 + 2) = pc + 2 := by rw [u_add (by omega), e2, u2]
  have e23 : uN (L.1 2 + 3) = pc + 3 := by rw [u_add (by omega), e2, u3]
  have c21 : (L.1 2 + 1).toNatClampNeg = pc + 1 := by rw [u_cl (by omega)]; exact e21
  have c22 : (L.1 2 + 2).toNatClampNeg = pc + 2 := by rw [u_cl (by omega)]; exact e22
  have evv : uN (L.1 2 + 3 + tcC c (pc + 2)) = pc + 3 + P := by rw [u_add (by omega), e23, hP]
  generalize hv : L.1 2 + 3 + tcC c (pc + 2) = v at *
  have hk : ∀ p, uN (σ.1 1902) - 1 ≤ p → p < uN (σ.1 1902) → K p = none := fun q h1 h2 => SL_top _ _ _ p.2.1.1 q (by omega) h2
  have w0 := Wj_0 p hk (by omega) v
  have H0 : WrH c g l t K K2 K3 K4 B KB f0 u0 σ fs u d r pb nf nc sq rk pc P D j v (uN (σ.1 1902)) L := ⟨p, cs, ⟨h1, h2, hP, hD, hc, hN⟩, ⟨d1, jl, hj, hd, hw⟩, hvl, gsl, by rw [evv]; exact nx, rfl, evv⟩
  generalize hT : uN (σ.1 1902) = T at *
  obtain ⟨b, eb, _⟩ := mi.2.2.1
  have cr := Ct_row mi.2.2.1 eb
  refine Tm_suc (fun k => by rw [f_X3_write]) ?_
  refine Tm_oP eb ?_
  refine Tm_chk (u_in (by rw [e21, cr.2.1]; omega) (by rw [cr.2.1]; omega)) ?_
  refine Tm_oP eb ?_
  refine Tm_chk (u_in (by rw [e22, cr.2.1]; omega) (by rw [cr.2.1]; omega)) ?_
  rw [cr.1, c21, c22, hv]
  have i1 : ¬ (L.1 1 < 0 ∨ sN (uI σ 1900 v) 20 ≤ (L.1 1).toNatClampNeg) := u_in (by show uN (L.1 1) < sN σ 20; omega) (by show sN σ 20 ≤ _; omega)
  refine Tm_chk i1 ?_
  have gx : Gv g (σ.2.2.1 20 (L.1 1).toNatClampNeg) := by rw [u_cl (by omega), h1]; exact gsl
  refine Tm_oxc (c_push2 (σ := uI σ 1900 v) (by show uN (σ.1 1902) ≤ sN σ 20; omega) st2) (fun q z => by rw [z.1.1]) (fun q6 z6 => ?_)
  have e02 : uN ((uI σ 1900 v).1 1902) = T := hT
  have w6 := Wj_pu w0 gx z6.1 z6.2
  have k61 := z6.1.2.1.1
  have k62 := z6.1.2.1.2
  have ph := Ph_s (σ := σ) (σ' := uI σ 1900 v) rfl
  have e50 : uN (σ.1 1902 - tcC c (pc + 1)) = T - D := by rw [u_sub (by omega), hD, hT]
  have sp6 : q6.2.1.1 1813 = 0 → T + 1 ≤ uN (q6.2.1.1 1902) := by
    intro z
    rcases z6.2 with y | y
    · omega
    · exact absurd z y.1
  by_cases P0 : P = 0
  · have z0 : tcC c (pc + 2) = 0 := u_eq.2 (by rw [hP, P0]; rfl)
    refine Tm_suc (fun k => by rw [f_X3_write]) ?_
    refine Tm_yes (by show tcC c (pc + 2) - 1 ≤ 0; rw [z0]; decide) ?_
    exact wr_2 H0 _ _ q6.2.2.1 q6.2.2.2 _ _ _ _ w6 (by omega) (by omega) rfl rfl rfl rfl (fun z => Or.inl (by have := sp6 z; omega)) (fun m0 => absurd m0 (by omega))
  · refine wr_1 H0 (by omega) (P - 1) _ _ q6.2.2.1 q6.2.2.2 _ _ _ _ w6 (by omega) (by omega) rfl rfl rfl rfl (by show 0 + (P - 1) = P - 1; omega) (fun z => ⟨sp6 z, Or.inl (by have := sp6 z; show T + 1 + 0 ≤ _; omega)⟩) ?_
    show uN (σ.1 1902 - tcC c (pc + 1)) = T - D + 0
    rw [e50]; omega
end CTV
