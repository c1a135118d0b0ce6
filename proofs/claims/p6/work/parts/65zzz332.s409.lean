/-! The class: targets are read. -/
section CTT
variable {g g' g2 : Nat → Prop} {l l' l2 : List Nat} {t t' t2 : Nat} {σ σ' σ2 τ τ' : CS} {L : LV} {x y i : Int32} {M M' U U' : Nat → Int32} {K K' K0 K2 K2' K3 K4 K4' KB : Nat → Option Int32} {c : Ct} {B f0 u0 a T : Nat} {fs : List FrT} {u d : Nat} {r r' : List Nat} {pb nf nc sq rk : Nat}
theorem Tm_oxk {x : Nat → Option RS} {f : Nat → RS → Option RS} {P Q : RS → Prop} {n1 n2 : Nat} (t : Tm x P) (hz : ∀ r, P r → r.1.1 = 0) (h : ∀ r, P r → Tm (fun k => f k r) (fun q => Q (q.1, q.2.1, (n1 + r.2.2.1 + q.2.2.1, n2 + r.2.2.2 + q.2.2.2)))) : Tm (fun k => ox (x k) (f k)) (fun q => Q (q.1, q.2.1, (n1 + q.2.2.1, n2 + q.2.2.2))) :=
  Tm_oxc (Q := fun q => Q (q.1, q.2.1, (n1 + q.2.2.1, n2 + q.2.2.2))) t hz (fun r p => Tm_mono (h r p) (fun q z => by
    show Q (q.1, q.2.1, (n1 + (r.2.2.1 + q.2.2.1), n2 + (r.2.2.2 + q.2.2.2)))
    rw [← Nat.add_assoc, ← Nat.add_assoc]; exact z))
/-- it goes on, lower, perhaps behind work -/
theorem go_w (ty : TyS c K K4 f0 u0 σ' fs u d r pb nf nc sq) (w1 : uN (σ.1 1905) ≤ uN (σ'.1 1905)) (w2 : uN (σ'.1 1905) ≤ 60000) (e4 : σ'.1 1814 = σ.1 1814) (n : Nx c (uN (σ'.1 1900)) u d r rk) : ∃ q, RunT c K K4 f0 u0 σ' q ∧ mu σ' q < mu σ (qv nf sq rk) := by
  obtain ⟨rk', ⟨d', r', h1, hr, hb⟩, h2, h3⟩ := n
  refine ⟨qv nf sq rk', ⟨w2, u, d', r', rk', fs, pb, nf, nc, sq, Or.inl ⟨TyS_rs ty hr hb, h1, rfl⟩⟩, ?_⟩
  have e : (60000 - uN (σ'.1 1905)) * QK ≤ (60000 - uN (σ.1 1905)) * QK := Nat.mul_le_mul_right _ (by omega)
  unfold mu qv
  rw [e4]
  omega
/-- the end of such an instruction: n plain places more -/
theorem Wj_fin (p : Pre c g l t K K2 K3 K4 B KB f0 u0 σ fs u d r pb nf nc sq) {v : Int32} (hk : ∀ p, a ≤ p → p < uN (σ.1 1902) → K p = none) (h : Wj c g' l' t' K' K2 K3 K4 B KB (Kc K (uN (σ.1 1902))) a (uN (σ.1 1902)) (uI σ 1900 v) τ) {n n1 n2 : Nat} (hs : τ.1 1812 = 0 → uN (τ.1 1902) = uN (σ.1 1902) + n) (c1 : n1 + PhC τ ≤ PhC σ) (c2 : n2 + PhS τ ≤ PhS σ) (nx : Nx c (uN v) u (d + n) r rk) : IO c B KB f0 u0 σ (mu σ (qv nf sq rk)) ((0, 0), τ, (n1, n2)) := by
  obtain ⟨h1, h2, h3, h4, h5, h6, h7, h8, h9⟩ := h
  have ty := p.2.1
  have ts := TyS_sp ty
  have fe : ∀ j, ¬ (j = 1 ∨ j = 404 ∨ j = 1203 ∨ j = 1812 ∨ j = 1813 ∨ j = 1902 ∨ j = 1905 ∨ (2403 ≤ j ∧ j ≤ 2405) ∨ j = 1900) → τ.1 j = σ.1 j := fun j hj => (h5 j (by omega)).trans (upd_other (by omega))
  have e9 : τ.1 1900 = v := h5 1900 (by decide)
  refine ⟨rfl, ⟨c1, c2⟩, MFr_t (Md_M (Md_i σ (by decide) v)) h6, fun _ j j1 j2 j3 => ?_, g', l', t', K', K2, K3, K4, h1, fun z => ?_, fun z => Or.inl (h9 z)⟩
  · by_cases z : j = 1912 ∨ j = 1913 ∨ j < 1912
    · exact fe j (by omega)
    · omega
  · have z0 : τ.1 1812 = 0 := z
    have hw := h7 z0
    have hw' : uN (σ.1 1905) ≤ uN (τ.1 1905) := hw.1
    have ke : ∀ p, p < uN (σ.1 1902) → K' p = K p := fun p hp => by
      rcases Nat.lt_or_ge p a with y | y
      · rw [h2 p y]
        exact if_pos hp
      · rw [h3 p y, hk p y hp]
    have hsl : SL K' (uN (σ.1 1901) + 4) (uN (τ.1 1902)) (d + n) r := by
      rw [hs z0]
      exact SL_push r _ d n (fun p h1 h2 => h3 p (by omega)) (SL_eq _ _ _ (fun p _ h2 => ke p h2) ty.1)
    refine go_w (TyS_k ty ⟨fe 1901 (by decide), fe 1815 (by decide), fe 1811 (by decide), fe 1908 (by decide)⟩ hsl (fun p hp => ke p (by omega)) (Nat.le_trans ty.2.2.1 (bt_m d n r)) ty.2.2.2.2.2.2.2.2) hw' hw.2 (fe 1814 (by decide)) ?_
    show Nx c (uN (τ.1 1900)) u (d + n) r rk
    rw [e9]; exact nx
/-- how many values parts have -/
def Wd (C : Nat → Int32) (p : Nat) : Nat → Nat
  | 0 => 0
  | n + 1 => Wd C p n + (if C (p + n) = 97 then 2 else 1)
theorem Wd_le (C : Nat → Int32) (p : Nat) : ∀ n, n ≤ Wd C p n
  | 0 => Nat.le_refl _
  | n + 1 => by
    have := Wd_le C p n
    show n + 1 ≤ Wd C p n + (if C (p + n) = 97 then 2 else 1)
    split <;> omega
theorem Wd_mo (C : Nat → Int32) (p : Nat) {m n : Nat} (h : m ≤ n) : Wd C p m + (n - m) ≤ Wd C p n := by
  induction n with
  | zero => have e : m = 0 := by omega
            rw [e]; exact Nat.le_refl _
  | succ n ih =>
    rcases Nat.lt_or_ge n m with y | y
    · have e : m = n + 1 := by omega
      rw [e]; omega
    · have := ih y
      show Wd C p m + (n + 1 - m) ≤ Wd C p n + (if C (p + n) = 97 then 2 else 1)
      split <;> omega
theorem c_read (p : Pre c g l t K K2 K3 K4 B KB f0 u0 σ fs u d r pb nf nc sq) {pc P D : Nat} (h2 : L.1 2 = nI pc) (hP : uN (tcC c (pc + 2)) = P) (hD : uN (tcC c (pc + 1)) = D) (hc : pc + 3 + P ≤ tcN c) (hN : tcN c ≤ 36864) (hs : uN (L.1 1) < uN (σ.1 1902)) (hd : D ≤ uN (σ.1 1902)) (hw : Wd (tcC c) (pc + 3) P ≤ D) (hvl : ∀ q, uN (σ.1 1902) ≤ q + D → q < uN (σ.1 1902) → K q = none ∨ K q = some mkT) (gsl : Gv g (σ.2.2.1 20 (uN (L.1 1)))) (nx : Nx c (pc + 3 + P) u (d + 1) r rk) : Tm (fun k => f_X3_read k 0 L σ) (fun q => q.1.1 = 0 ∧ IO c B KB f0 u0 σ (mu σ (qv nf sq rk)) ((0, 0), q.2.1, (q.2.2.1 + 0, q.2.2.2 + 0))) := by
  have mi := p.1
  obtain ⟨st1, st2, st3⟩ := mi.2.1.1
  have u1 : uN (1 : Int32) = 1 := rfl
  have u2 : uN (2 : Int32) = 2 := rfl
  have u3 : uN (3 : Int32) = 3 := rfl
  have e2 : uN (L.1 2) = pc := by rw [h2, u_n (by omega)]
  have e21 : uN (L.1 2 + 1) = pc + 1 := by rw [u_inc (by omega), e2]
  have e22 : uN (L.1 2 + 2) = pc + 2 := by rw [u_add (by omega), e2, u2]
  have e23 : uN (L.1 2 + 3) = pc + 3 := by rw [u_add (by omega), e2, u3]
  have c21 : (L.1 2 + 1).toNatClampNeg = pc + 1 := by rw [u_cl (by omega)]; exact e21
  have c22 : (L.1 2 + 2).toNatClampNeg = pc + 2 := by rw [u_cl (by omega)]; exact e22
  have evv : uN (L.1 2 + 3 + tcC c (pc + 2)) = pc + 3 + P := by rw [u_add (by omega), e23, hP]
  generalize hv : L.1 2 + 3 + tcC c (pc + 2) = v at *
  have hk : ∀ p, uN (σ.1 1902) ≤ p → p < uN (σ.1 1902) → K p = none := fun p h1 h2 => absurd h2 (by omega)
  have w0 := Wj_0 p hk (Nat.le_refl _) v
  generalize hT : uN (σ.1 1902) = T at *
  have fin : ∀ (q : RS), q.1 = (0, 0) → IO c B KB f0 u0 σ (mu σ (qv nf sq rk)) ((0, 0), q.2.1, (q.2.2.1 + 0, q.2.2.2 + 0)) → q.1.1 = 0 ∧ IO c B KB f0 u0 σ (mu σ (qv nf sq rk)) ((0, 0), q.2.1, (q.2.2.1 + 0, q.2.2.2 + 0)) := fun q e h => ⟨by rw [e], h⟩
  have b1 : ∀ (m : Nat) (L' : LV) (τ : CS) (n1 n2 : Nat) (g' : Nat → Prop) (l' : List Nat) (t' : Nat) (K' : Nat → Option Int32), Wj c g' l' t' K' K2 K3 K4 B KB (Kc K T) T T (uI σ 1900 v) τ → n1 + PhC τ ≤ PhC σ → n2 + PhS τ ≤ PhS σ → (uN (τ.1 1902) = T + 1 ∨ (¬ τ.1 1813 = 0 ∧ τ.1 1812 = 1)) → uN (L'.1 5) + m = P → L'.1 2 = L.1 2 → L'.1 4 = tcC c (pc + 2) → uN (L'.1 3) = T - D + Wd (tcC c) (pc + 3) (uN (L'.1 5)) → Tm (fun k => f_X3_read k 1 L' τ) (fun q => (fun z : RS => z.1.1 = 0 ∧ IO c B KB f0 u0 σ (mu σ (qv nf sq rk)) ((0, 0), z.2.1, (z.2.2.1 + 0, z.2.2.2 + 0))) (q.1, q.2.1, (n1 + q.2.2.1, n2 + q.2.2.2))) := by
    intro m
    induction m with
    | zero =>
      intro L' τ n1 n2 g' l' t' K' w k1 k2 sp m5 m2 m4 m3
      refine Tm_suc (fun k => by rw [f_X3_read]) ?_
      refine Tm_yes (by rw [m4, u_le (by omega) (by omega)]; omega) ?_
      refine Tm_suc (fun k => by rw [f_X3_read]) ?_
      refine Tm_some ⟨rfl, ?_⟩
      rw [← hT] at w
      exact Wj_fin (n := 1) p (by rw [hT]; exact hk) w (fun z => by
        rcases sp with y | y
        · rw [hT]; exact y
        · rw [y.2] at z; exact absurd z (by decide)) k1 k2 (by rw [evv]; exact nx)
    | succ m ih =>
      intro L' τ n1 n2 g' l' t' K' w k1 k2 sp m5 m2 m4 m3
      refine Tm_suc (fun k => by rw [f_X3_read]) ?_
      refine Tm_no (by rw [m4, u_le (by omega) (by omega)]; omega) ?_
      refine Tm_ite (fun c13 => ?_) (fun c13 => ?_)
      · have sp1 : uN (τ.1 1902) = T + 1 := by
          rcases sp with y | y
          · exact y
          · exact absurd c13 y.1
        refine Tm_oxk (Q := fun z : RS => z.1.1 = 0 ∧ IO c B KB f0 u0 σ (mu σ (qv nf sq rk)) ((0, 0), z.2.1, (z.2.2.1 + 0, z.2.2.2 + 0))) (c_makeRoom w.1.1 w.1.2.1) (fun q z => by rw [z.1]) (fun q3 z3 => ?_)
        obtain ⟨g3, l3, t3, w3⟩ := Wj_rm w z3
        have f3 := z3.2.2.1.1.1
        have s3 := w3.1.2.1.1
        have sp3 : uN (q3.2.1.1 1902) = T + 1 := by rw [f3 1902 (by decide)]; exact sp1
        have z13 : q3.2.1.1 1813 = 0 := (f3 1813 (by decide)).trans c13
        have k31 := z3.2.1.1
        have k32 := z3.2.1.2
        obtain ⟨b, eb, _⟩ := w3.1.2.2.1
        have cr := Ct_row w3.1.2.2.1 eb
        have ei : uN (L'.1 2 + 3 + L'.1 5) = pc + 3 + uN (L'.1 5) := by rw [m2, u_add (by omega), e23]
        have mo := Wd_mo (tcC c) (pc + 3) (m := uN (L'.1 5)) (n := P) (by omega)
        have e1 : uN (q3.2.1.1 1902 - 1) = T := by rw [u_sub (by omega), u1]; omega
        have e31 : uN (L'.1 3 + 1) = uN (L'.1 3) + 1 := u_inc (by omega)
        refine Tm_oP eb ?_
        refine Tm_chk (u_in (by rw [ei, cr.2.1]; omega) (by rw [cr.2.1]; omega)) ?_
        refine Tm_chk (u_in (by omega) (by omega)) ?_
        refine Tm_chk (u_in (by omega) (by omega)) ?_
        refine Tm_chk (u_in (by omega) (by omega)) ?_
        rw [cr.1, u_cl (x := L'.1 2 + 3 + L'.1 5) (by omega), ei, u_cl (x := q3.2.1.1 1902 - 1) (by omega), e1, u_cl (x := L'.1 3) (by omega), u_cl (x := L'.1 3 + 1) (by omega), e31]
        have gvv : ∀ q, T - D ≤ q → q ≤ T → Gv g3 (q3.2.1.2.2.1 20 q) := by
          intro q q1 q2
          by_cases y : q = T
          · rw [y]; exact (s3.2.2 T (by omega)).2.1 (w3.2.2.1 T (Nat.le_refl _))
          · have ke : K' q = K q := (w3.2.1 q (by omega)).trans (if_pos (by omega))
            rcases hvl q (by omega) (by omega) with y | y
            · exact (s3.2.2 q (by omega)).2.1 (ke.trans y)
            · rcases (s3.2.2 q (by omega)).2.2 _ (ke.trans y) with z | z
              · have y : 4026531840 ≤ uN mkT := z.2
                exact absurd y (by decide)
              · exact (mk_t z).1
        refine Tm_op (c_part w3.1.1 (gvv T (by omega) (Nat.le_refl _)) (gvv (uN (L'.1 3)) (by omega) (by omega)) (gvv (uN (L'.1 3) + 1) (by omega) (by omega))) (fun q9 z9 => ?_)
        obtain ⟨g9, l9, t9, ga, vv⟩ := z9
        have w9 := Wj_ga w3 ga
        have s9 := w9.1.2.1.1
        have a9 := ga.2.2.2.2.1
        have sp9 : uN (q9.2.1 1902) = T + 1 := by rw [a9 1902 (by decide)]; exact sp3
        have gv9 : Gv g9 q9.1 := vv.elim id Gv_rw
        refine Tm_op (c_replace2 w9.1.1 gv9 (by omega) s9.1 s9.2.1.2 (w9.2.2.2.2.2.2.2.1 (by rw [a9 1813 (by decide)]; exact z13))) (fun q10 z10 => ?_)
        have w10 := Wj_re w9 gv9 (by omega) z10.1 z10.2
        have sp10 : uN (q10.2.1 1902) = T + 1 := by rw [z10.1.2.2.1]; exact sp9
        have ph1 := Ph_s (σ := q3.2.1) (σ' := q9.2) (by rw [ga.2.2.2.2.2.2.2])
        have ph2 := Ph_s (σ := q9.2) (σ' := q10.2) (by rw [z10.1.2.1.2.2])
        have b4 : ∀ L2 : LV, L2.1 2 = L.1 2 → L2.1 4 = tcC c (pc + 2) → L2.1 5 = L'.1 5 → L2.1 101 = L'.1 3 → uN (L2.1 100) = (if tcC c (pc + 3 + uN (L'.1 5)) = 97 then 2 else 1) → Tm (fun k => f_X3_read k 4 L2 q10.2) (fun q => (fun z : RS => z.1.1 = 0 ∧ IO c B KB f0 u0 σ (mu σ (qv nf sq rk)) ((0, 0), z.2.1, (z.2.2.1 + 0, z.2.2.2 + 0))) (q.1, q.2.1, (n1 + q3.2.2.1 + q.2.2.1, n2 + q3.2.2.2 + q.2.2.2))) := by
          intro L2 o2 o4 o5 o101 o100
          have le2 : uN (L2.1 100) ≤ 2 := by rw [o100]; split <;> omega
          refine Tm_suc (fun k => by rw [f_X3_read]) ?_
          refine ih _ _ _ _ _ _ _ _ w10 (by omega) (by omega) (Or.inl sp10) ?_ o2 o4 ?_
          · show uN (L2.1 5 + 1) + m = P
            rw [o5, u_inc (by omega)]; omega
          · show uN (L2.1 101 + L2.1 100) = T - D + Wd (tcC c) (pc + 3) (uN (L2.1 5 + 1))
            rw [o5, u_inc (by omega), o101, u_add (by omega), o100, m3]
            show _ = T - D + (Wd (tcC c) (pc + 3) (uN (L'.1 5)) + (if tcC c (pc + 3 + uN (L'.1 5)) = 97 then 2 else 1))
            omega
        refine Tm_ite (fun c97 => ?_) (fun c97 => ?_)
        · refine b4 _ m2 m4 rfl rfl ?_
          rw [if_pos c97]; rfl
        · refine Tm_suc (fun k => by rw [f_X3_read]) ?_
          refine b4 _ m2 m4 rfl rfl ?_
          rw [if_neg c97]; rfl
      · refine Tm_suc (fun k => by rw [f_X3_read]) ?_
        refine Tm_some ⟨rfl, ?_⟩
        rw [← hT] at w
        exact Wj_fin (n := 1) p (by rw [hT]; exact hk) w (fun z => by
          rcases sp with y | y
          · rw [hT]; exact y
          · rw [y.2] at z; exact absurd z (by decide)) k1 k2 (by rw [evv]; exact nx)
  obtain ⟨b, eb, _⟩ := mi.2.2.1
  have cr := Ct_row mi.2.2.1 eb
  refine Tm_suc (fun k => by rw [f_X3_read]) ?_
  refine Tm_oP eb ?_
  refine Tm_chk (u_in (by rw [e21, cr.2.1]; omega) (by rw [cr.2.1]; omega)) ?_
  refine Tm_oP eb ?_
  refine Tm_chk (u_in (by rw [e22, cr.2.1]; omega) (by rw [cr.2.1]; omega)) ?_
  rw [cr.1, c21, c22, hv]
  have i1 : ¬ (L.1 1 < 0 ∨ sN (uI σ 1900 v) 20 ≤ (L.1 1).toNatClampNeg) := u_in (by show uN (L.1 1) < sN σ 20; omega) (by show sN σ 20 ≤ _; omega)
  refine Tm_chk i1 ?_
  have gx : Gv g (σ.2.2.1 20 (L.1 1).toNatClampNeg) := by rw [u_cl (by omega)]; exact gsl
  refine Tm_oxc (c_push2 (σ := uI σ 1900 v) (by show uN (σ.1 1902) ≤ sN σ 20; omega) st2) (fun q z => by rw [z.1.1]) (fun q6 z6 => ?_)
  have e02 : uN ((uI σ 1900 v).1 1902) = T := hT
  have w6 := Wj_pu w0 gx z6.1 z6.2
  have k61 := z6.1.2.1.1
  have k62 := z6.1.2.1.2
  have ph := Ph_s (σ := σ) (σ' := uI σ 1900 v) rfl
  refine b1 P _ _ q6.2.2.1 q6.2.2.2 _ _ _ _ w6 (by omega) (by omega) ?_ (by show uN (0 : Int32) + P = P; show 0 + P = P; omega) rfl rfl ?_
  · rcases z6.2 with y | y
    · left; rw [y, e02]
    · right
      refine ⟨y.1, ?_⟩
      rcases z6.1.2.2.2.2.2.2 with x | x
      · have := x.2.1
        have := z6.1.2.2.2.2.1.2
        rw [y.2] at *
        omega
      · exact x.2.2.1
  · show uN (σ.1 1902 - tcC c (pc + 1)) = T - D + Wd (tcC c) (pc + 3) (uN (0 : Int32))
    rw [u_sub (by omega), hD, hT]
    show T - D = T - D + 0
    omega
end CTT
