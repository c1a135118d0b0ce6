/-! The class: its loop. -/
section CUH
variable {g g' g2 : Nat → Prop} {l l' l2 : List Nat} {t t' t2 : Nat} {σ σ' σ2 τ τ' φ : CS} {L : LV} {x y z i : Int32} {M M' U U' : Nat → Int32} {K K' K0 K2 K2' K3 K3' K4 K4' KB : Nat → Option Int32} {c : Ct} {B f0 u0 a T : Nat} {fs : List FrT} {u d : Nat} {r r' : List Nat} {pb nf nc sq rk : Nat}
/-- room is made between instructions: it runs as before -/
theorem RunT_rm {q : Nat} (h : RunT c K K4 f0 u0 τ q) {z : RS} (rm : RmO K K2 K3 K4 τ z) : RunT c K K4 f0 u0 z.2.1 q := by
  obtain ⟨-, -, f, ln, -⟩ := rm
  have e : ∀ j, ¬ (j = 1 ∨ j = 2403 ∨ j = 2404 ∨ j = 2405) → z.2.1.1 j = τ.1 j := f.1.1
  have tk : ∀ {fs : List FrT} {u d : Nat} {r : List Nat} {pb nf nc sq : Nat}, TyS c K K4 f0 u0 τ fs u d r pb nf nc sq → TyS c K K4 f0 u0 z.2.1 fs u d r pb nf nc sq := fun ty => TyS_k ty ⟨e 1901 (by decide), e 1815 (by decide), e 1811 (by decide), e 1908 (by decide)⟩ (by rw [e 1902 (by decide)]; exact ty.1) (fun _ _ => rfl) ty.2.2.1 ty.2.2.2.2.2.2.2.2
  obtain ⟨w, u, d, r, rk, fs, pb, nf, nc, sq, h⟩ := h
  refine ⟨by rw [e 1905 (by decide)]; exact w, u, d, r, rk, fs, pb, nf, nc, sq, ?_⟩
  rcases h with ⟨h1, h2, h3⟩ | ⟨dd, r0, h1, h2, h3, h4, h5⟩
  · exact Or.inl ⟨tk h1, by rw [e 1900 (by decide)]; exact h2, h3⟩
  · right
    have sp3 : 3 ≤ uN (τ.1 1902) := by
      have s := h2.1
      rw [h1.1, h1.2.1] at s
      obtain ⟨b, e', r', a1, a2, a3, a4, a5⟩ := s.2.2 (by unfold bsl; omega) (by omega)
      have p1 : pk (750000 + dd) = 1 := if_neg (by omega)
      have p3 : (750000 + dd) % 250000 = dd := by omega
      rw [p3] at a2
      have le := (SL_le _ _ _ a2).2
      omega
    have l1 := ln (uN (τ.1 1902) - 3) (by omega)
    have l3 := ln (uN (τ.1 1902) - 1) (by omega)
    have e3 := l3.2 h4.2
    refine ⟨dd, r0, h1, tk h2, by rw [e 1900 (by decide)]; exact h3, ?_, ?_⟩
    · rw [e 1902 (by decide), l1.1, e3]; exact h4
    · rw [e 1902 (by decide), e3]; exact h5
theorem c_disp2 (p : Pre c g l t K K2 K3 K4 B KB f0 u0 σ fs u d r pb nf nc sq) (by0 : BY (tcS c u0) σ) {pc d' : Nat} {r0 : List Nat} {b : Bool} (eb : sPr σ = some b) (hk : L.2.2.1 1 = sKd σ b) (h4 : L.1 4 = nI pc) (tD : tcD c pc = some (u + 100, d, r, rk)) (hop : tcC c pc &&& 255 = nI 113) (hp : pc + 1 ≤ tcN c) (hN : tcN c ≤ 36864) (hd : d = 0 ∧ r = (750000 + (d' + 2)) :: r0 ∧ 2 ≤ d' + 2 ∧ d' + 2 < 250000) (k5 : 5 ≤ kdC (σ.2.2.1 3) (σ.2.2.1 20 (uN (σ.1 1902) - 3))) (hr : 1000 ≤ rk ∧ rk ≤ 72 * (RK + 1)) (nS : NxS c (pc + 1) u (d' + 1) r0) {Q : RS → Prop} (cont : ∀ (L' : LV) (τ : CS) (n1 n2 : Nat), (IO c B KB f0 u0 σ (mu σ (qv nf sq (rk - min (uN (σ.2.2.1 20 (uN (σ.1 1902) - 1)) % 268435456) 1000))) ((0, 0), τ, (n1, n2)) ∨ Sd c B KB f0 u0 σ ((0, 0), τ, (n1, n2))) → BY (tcS c u0) τ → L'.2.1 2 = L.2.1 2 → L'.2.2.1 1 = L.2.2.1 1 → Tm (fun k => f_X3_execute k 19 L' τ) (fun q => Q (q.1, q.2.1, (n1 + q.2.2.1, n2 + q.2.2.2)))) : Tm (fun k => f_X3_execute k 5 L σ) Q := by
  have hpc1 : nI pc + 1 = nI (pc + 1) := u_eq.2 (by rw [u_inc (by rw [u_n (by omega)]; omega), u_n (by omega), u_n (by omega)])
  have p1 := Pre_i p (j := 1900) (Or.inr (Or.inl rfl)) (nI (pc + 1))
  have by1 : BY (tcS c u0) (uI σ 1900 (nI (pc + 1))) := BY_I (by decide) by0
  have md : Md σ (uI σ 1900 (nI (pc + 1))) := Md_i σ (by decide) _
  have cr := Ct_row p.1.2.2.1 eb
  have cr1 : (uI σ 1900 (nI (pc + 1))).2.2.1 (pR0 (sKd σ b)) = tcC c := cr.1
  have c4 : (nI pc).toNatClampNeg = pc := by rw [u_cl (by rw [u_n (by omega)]; omega), u_n (by omega)]
  have i4 : ¬ (nI pc < 0 ∨ sN (uI σ 1900 (nI (pc + 1))) (pR0 (sKd σ b)) ≤ (nI pc).toNatClampNeg) := u_in (by show uN (nI pc) < sN σ (pR0 (sKd σ b)); rw [cr.2.1, u_n (by omega)]; omega) (by show sN σ (pR0 (sKd σ b)) ≤ _; rw [cr.2.1]; omega)
  have nn : ∀ n, n < 256 → ¬ n = 7 → ¬ nI (113 / 16) = nI n := fun n hn ne e => ne ((op_n (by decide) hn).1 e).symm
  have io : ∀ {q : RS}, IO c B KB f0 u0 (uI σ 1900 (nI (pc + 1))) (mu (uI σ 1900 (nI (pc + 1))) (qv nf sq (rk - min (uN (σ.2.2.1 20 (uN (σ.1 1902) - 1)) % 268435456) 1000))) q → IO c B KB f0 u0 σ (mu σ (qv nf sq (rk - min (uN (σ.2.2.1 20 (uN (σ.1 1902) - 1)) % 268435456) 1000))) ((0, 0), q.2.1, (q.2.2.1, q.2.2.2)) := fun h => by
    rw [mu_e (σ := σ) (σ' := uI σ 1900 (nI (pc + 1))) (uI_o (by decide)) (uI_o (by decide)) _] at h
    exact IO_0 (IO_b md rfl h)
  refine Tm_suc (fun k => by rw [f_X3_execute]) ?_
  rw [hk, h4, hpc1]
  refine Tm_chk i4 (Tm_chk i4 ?_)
  rw [cr1, c4, hop, n_shr4 (by decide)]
  refine Tm_no (nn 0 (by decide) (by decide)) (Tm_no (nn 1 (by decide) (by decide)) (Tm_no (nn 2 (by decide) (by decide)) (Tm_no (nn 3 (by decide) (by decide)) (Tm_no (nn 4 (by decide) (by decide)) (Tm_no (nn 5 (by decide) (by decide)) (Tm_no (nn 6 (by decide) (by decide)) (Tm_yes rfl ?_)))))))
  refine Tm_suc (fun k => by rw [f_X3_execute]) ?_
  exact Tm_oxc (Tm_Bf (c_foldOn p1 hd k5 rfl h4 hp hN uI_s tD hr nS) (fun k => kb_f_X3_foldOn _ _ _ _ by1)) (fun q z => by rw [z.1.1]) (fun q z => cont _ _ _ _ (Or.inl (io z.1)) z.2 rfl rfl)
/-- all code is typed -/
def CkA (c : Ct) : Prop := tcN c ≤ 36864 ∧ ¬ tcK c 41 ∧ ∀ pc u d r rk, tcD c pc = some (u, d, r, rk) → pc + 1 ≤ tcN c ∧ rk ≤ 72 * (RK + 1) ∧ ∃ op, op < 256 ∧ tcC c pc &&& 255 = nI op ∧ (u < 42 → OKI c pc u d r rk op (tcC c pc >>> ((8 : Int32) &&& 31))) ∧ (100 ≤ u → op = 113 ∧ 1000 ≤ rk ∧ ∀ d' r0, r = (750000 + (d' + 2)) :: r0 → NxS c (pc + 1) (u - 100) (d' + 1) r0)
/-- how it stands between instructions, so much to go; or halted -/
def LpX (c : Ct) (B : Nat) (KB : Nat → Option Int32) (f0 u0 : Nat) (σ τ : CS) (n1 n2 m : Nat) : Prop := (n1 + PhC τ ≤ PhC σ ∧ n2 + PhS τ ≤ PhS σ) ∧ MFr σ τ ∧ (¬ tcS c u0 → EvF σ τ) ∧ BY (tcS c u0) τ ∧ ∃ (g : Nat → Prop) (l : List Nat) (t : Nat) (K K2 K3 K4 : Nat → Option Int32), MIn c g l t K K2 K3 K4 B KB τ ∧ ((τ.1 1812 = 0 ∧ ∃ q, RunT c K K4 f0 u0 τ q ∧ mu τ q < m) ∨ (¬ τ.1 1812 = 0 ∧ (Hz (tcS c u0) τ ∨ (tcS c u0 ∧ uN (τ.1 1905) ≤ 60000 ∧ RUN c K (uN (τ.1 1900)) (uN (τ.1 1901)) (uN (τ.1 1902)) (uN (τ.1 1908)) 0) ∨ (u0 = 41 ∧ f0 + 4 < uN (τ.1 1902) ∧ Gv g (τ.2.2.1 20 (uN (τ.1 1902) - 1))))))
theorem LpX_io {n1 n2 m a1 a2 : Nat} (h : LpX c B KB f0 u0 σ τ n1 n2 m) {m' : Nat} (hm : m' ≤ T) (hb : BY (tcS c u0) φ) (z : IO c B KB f0 u0 τ m' ((0, 0), φ, (a1, a2)) ∨ Sd c B KB f0 u0 τ ((0, 0), φ, (a1, a2))) : LpX c B KB f0 u0 σ φ (n1 + a1) (n2 + a2) T := by
  obtain ⟨⟨c1, c2⟩, f, ev, by0, -⟩ := h
  rcases z with ⟨z1, z2, z3, z4, g, l, t, K, K2, K3, K4, z5, z6, z7⟩ | ⟨z1, z2, z3, z4, g, l, t, K, K2, K3, K4, z5, z6, z7⟩
  · have d1 : a1 + PhC φ ≤ PhC τ := z2.1
    have d2 : a2 + PhS φ ≤ PhS τ := z2.2
    refine ⟨⟨by omega, by omega⟩, MFr_t f z3, fun n j j1 j2 j3 => (z4 n j j1 j2 j3).trans (ev n j j1 j2 j3), hb, g, l, t, K, K2, K3, K4, z5, ?_⟩
    by_cases e : φ.1 1812 = 0
    · obtain ⟨q, q1, q2⟩ := z6 e
      have q3 : mu φ q < m' := q2
      exact Or.inl ⟨e, q, q1, by omega⟩
    · exact Or.inr ⟨e, Or.inl (z7 e)⟩
  · have d1 : a1 + PhC φ ≤ PhC τ := z2.1
    have d2 : a2 + PhS φ ≤ PhS τ := z2.2
    have z6' : φ.1 1812 = 1 := z6
    exact ⟨⟨by omega, by omega⟩, MFr_t f z3, fun n j j1 j2 j3 => (z4 n j j1 j2 j3).trans (ev n j j1 j2 j3), hb, g, l, t, K, K2, K3, K4, z5, Or.inr ⟨by rw [z6']; decide, Or.inr z7⟩⟩
/-- behind execute -/
def ExZ (c : Ct) (B : Nat) (KB : Nat → Option Int32) (f0 u0 : Nat) (σ : CS) (z : RS) : Prop := z.1 = (0, 0) ∧ LpX c B KB f0 u0 σ z.2.1 z.2.2.1 z.2.2.2 0
theorem tu_lt {x : Int64} (h : x.toInt < 4611686018427387904) : ¬ 0 ≤ nbCmp x 4611686018427387904 := by
  have e : (4611686018427387904 : Int64).toInt = 4611686018427387904 := rfl
  unfold nbCmp
  rw [if_neg (by rw [Int64.lt_iff_toInt_lt, e]; omega), if_neg (by intro q; rw [q, e] at h; omega)]
  decide
theorem tu_in {x : Int64} (h0 : 0 ≤ x.toInt) (h : x.toInt < 4611686018427387904) : (x + 1).toInt = x.toInt + 1 := by
  have e : (1 : Int64).toInt = 1 := rfl
  rw [Int64.toInt_add, e]
  exact Int.bmod_eq_of_le (by omega) (by omega)
theorem c_loop (ck : CkA c) (hu : ¬ tcK c u0) (hz : tcS c u0 → f0 = 0 ∧ u0 = 0) (bo : (B ≤ f0 + 3 ∧ ∀ j, j < 4 + tcF c 0 → KB j = KH j) ∨ ((∀ j, KB j = KH j) ∧ B ≤ f0 + 4 + tcF c u0)) {b : Bool} (eb : sPr σ = some b) : ∀ (m : Nat) (L' : LV) (τ : CS) (n1 n2 : Nat), LpX c B KB f0 u0 σ τ n1 n2 m → 0 ≤ (L'.2.1 2).toInt → (L'.2.1 2).toInt + m ≤ 4611686018427387904 → L'.2.2.1 1 = sKd σ b → Tm (fun k => f_X3_execute k 1 L' τ) (fun q => ExZ c B KB f0 u0 σ (q.1, q.2.1, (n1 + q.2.2.1, n2 + q.2.2.2))) := by
  have ha : ∀ (m : Nat) (L' : LV) (τ : CS) (n1 n2 : Nat), LpX c B KB f0 u0 σ τ n1 n2 m → ¬ τ.1 1812 = 0 → Tm (fun k => f_X3_execute k 2 L' τ) (fun q => ExZ c B KB f0 u0 σ (q.1, q.2.1, (n1 + q.2.2.1, n2 + q.2.2.2))) := by
    intro m L' τ n1 n2 h e
    refine Tm_suc (fun k => by rw [f_X3_execute]) ?_
    refine Tm_some ⟨rfl, ?_⟩
    obtain ⟨h1, h2, h3, h4, g, l, t, K, K2, K3, K4, h5, h6⟩ := h
    exact ⟨h1, h2, h3, h4, g, l, t, K, K2, K3, K4, h5, Or.inr (h6.elim (fun y => absurd y.1 e) id)⟩
  intro m
  induction m with
  | zero =>
    intro L' τ n1 n2 h t0 t1 hk
    have e : ¬ τ.1 1812 = 0 := by
      obtain ⟨h1, h2, h3, h4, g, l, t, K, K2, K3, K4, h5, h6⟩ := h
      rcases h6 with ⟨_, q, _, y⟩ | y
      · exact absurd y (Nat.not_lt_zero _)
      · exact y.1
    refine Tm_suc (fun k => by rw [f_X3_execute]) ?_
    exact Tm_ite (fun _ => ha _ _ _ _ _ h e) (fun _ => Tm_no e (ha _ _ _ _ _ h e))
  | succ m ih =>
    intro L' τ n1 n2 h t0 t1 hk
    by_cases e : ¬ τ.1 1812 = 0
    · refine Tm_suc (fun k => by rw [f_X3_execute]) ?_
      exact Tm_ite (fun _ => ha _ _ _ _ _ h e) (fun _ => Tm_no e (ha _ _ _ _ _ h e))
    have e : τ.1 1812 = 0 := Classical.byContradiction e
    have tl : (L'.2.1 2).toInt < 4611686018427387904 := by omega
    -- behind the room
    have b3 : ∀ (L2 : LV) (ρ : CS) (m1 m2 : Nat), LpX c B KB f0 u0 σ ρ m1 m2 (m + 1) → ρ.1 1812 = 0 → L2.2.1 2 = L'.2.1 2 → L2.2.2.1 1 = L'.2.2.1 1 → Tm (fun k => f_X3_execute k 3 L2 ρ) (fun q => ExZ c B KB f0 u0 σ (q.1, q.2.1, (m1 + q.2.2.1, m2 + q.2.2.2))) := by
      intro L2 ρ m1 m2 h0 er l2 l1
      have h0' := h0
      obtain ⟨h1, h2, h3, h4, g, l, t, K, K2, K3, K4, mi, h6⟩ := h0'
      obtain ⟨_, q, rt, qm⟩ := h6.resolve_right (fun y => y.1 er)
      have ebr : sPr ρ = some b := by
        show ρ.2.2.2.2.2.1.2.2.1 = _
        rw [h2.2.2.2.2]; exact eb
      have hkr : L2.2.2.1 1 = sKd ρ b := by
        rw [l1, hk]
        show σ.2.2.2.2.2.1.2.2.2.2 b = ρ.2.2.2.2.2.1.2.2.2.2 b
        rw [h2.2.2.2.2]
      have cr := Ct_row mi.2.2.1 ebr
      have cont : ∀ (m' : Nat), m' ≤ m → ∀ (L3 : LV) (φ : CS) (a1 a2 : Nat), (IO c B KB f0 u0 ρ m' ((0, 0), φ, (a1, a2)) ∨ Sd c B KB f0 u0 ρ ((0, 0), φ, (a1, a2))) → BY (tcS c u0) φ → L3.2.1 2 = L2.2.1 2 → L3.2.2.1 1 = L2.2.2.1 1 → Tm (fun k => f_X3_execute k 19 L3 φ) (fun q => (fun z : RS => ExZ c B KB f0 u0 σ (z.1, z.2.1, (m1 + z.2.2.1, m2 + z.2.2.2))) (q.1, q.2.1, (a1 + q.2.2.1, a2 + q.2.2.2))) := by
        intro m' hm L3 φ a1 a2 z hb e1 e2
        have lx := LpX_io h0 hm hb z
        refine Tm_suc (fun k => by rw [f_X3_execute]) ?_
        refine Tm_mono (ih _ φ (m1 + a1) (m2 + a2) lx ?_ ?_ ?_) (fun q y => ?_)
        · show 0 ≤ (L3.2.1 2 + 1).toInt
          rw [e1, l2, tu_in t0 tl]; omega
        · show (L3.2.1 2 + 1).toInt + m ≤ _
          rw [e1, l2, tu_in t0 tl]; omega
        · show L3.2.2.1 1 = _
          rw [e2, l1]; exact hk
        · show ExZ c B KB f0 u0 σ (q.1, q.2.1, (m1 + (a1 + q.2.2.1), m2 + (a2 + q.2.2.2)))
          rw [← Nat.add_assoc, ← Nat.add_assoc]; exact y
      obtain ⟨w5, u, d, r, rk, fs, pb, nf, nc, sq, rr⟩ := rt
      have tD : ∃ u', tcD c (uN (ρ.1 1900)) = some (u', d, r, rk) := rr.elim (fun y => ⟨_, y.2.1⟩) (fun ⟨dd, r0, y⟩ => ⟨_, y.2.2.1⟩)
      obtain ⟨u', tD⟩ := tD
      have ckp := ck.2.2 _ _ _ _ _ tD
      have hN := ck.1
      have h19 : ρ.1 1900 = nI (uN (ρ.1 1900)) := u_of _
      have ih1 : ¬ ρ.1 1900 < 0 := by rw [u_neg]; have := ckp.1; omega
      have ih2 : ρ.1 1900 < nI (sN ρ (pR0 (L2.2.2.1 1))) := by
        rw [hkr, cr.2.1, u_ltn (by have := ckp.1; omega) (by rw [u_n (by omega)]; omega), u_n (by omega)]
        exact ckp.1
      refine Tm_suc (fun k => by rw [f_X3_execute]) ?_
      refine Tm_no ih1 (Tm_yes ih2 ?_)
      rcases rr with ⟨ty, tD', qe⟩ | ⟨dd, r0, y1, ty, tD', y4, qe⟩
      · have pp : Pre c g l t K K2 K3 K4 B KB f0 u0 ρ fs u d r pb nf nc sq := ⟨mi, ty, w5, er, bo⟩
        have c2 := ck.2.2 _ _ _ _ _ tD'
        obtain ⟨k1, k2, op, k3, k4, k5, k6⟩ := c2
        have qm' : mu ρ (qv nf sq rk) ≤ m := by
          have : mu ρ q < m + 1 := qm
          rw [qe] at this
          exact Nat.le_of_lt_succ this
        exact c_disp (L := lI L2 4 (ρ.1 1900)) (Q := fun z : RS => ExZ c B KB f0 u0 σ (z.1, z.2.1, (m1 + z.2.2.1, m2 + z.2.2.2))) pp h4 ebr hkr h19 tD' k4 k3 rfl k1 hN hu ck.2.1 hz (k5 ty.2.2.2.2.2.2.2.1) (cont _ qm')
      · have pp : Pre c g l t K K2 K3 K4 B KB f0 u0 ρ fs u d r pb nf nc sq := ⟨mi, ty, w5, er, bo⟩
        have c2 := ck.2.2 _ _ _ _ _ tD'
        obtain ⟨k1, k2, op, k3, k4, k5, k6⟩ := c2
        obtain ⟨j1, j2, j3⟩ := k6 (Nat.le_add_left _ _)
        obtain ⟨d', de⟩ : ∃ d', dd = d' + 2 := ⟨dd - 2, by omega⟩
        subst de
        have qm' : mu ρ (qv nf sq (rk - min (uN (ρ.2.2.1 20 (uN (ρ.1 1902) - 1)) % 268435456) 1000)) ≤ m := by
          have : mu ρ q < m + 1 := qm
          rw [qe] at this
          exact Nat.le_of_lt_succ this
        have nS := j3 d' r0 y1.2.1
        rw [Nat.add_sub_cancel] at nS
        exact c_disp2 (L := lI L2 4 (ρ.1 1900)) (Q := fun z : RS => ExZ c B KB f0 u0 σ (z.1, z.2.1, (m1 + z.2.2.1, m2 + z.2.2.2))) pp h4 ebr hkr h19 tD' (by rw [k4, j1]) k1 hN y1 y4.1 ⟨j2, k2⟩ nS (cont _ qm')
    have hby : BY (tcS c u0) τ := h.2.2.2.1
    refine Tm_suc (fun k => by rw [f_X3_execute]) ?_
    refine Tm_no (tu_lt tl) (Tm_yes e ?_)
    refine Tm_op c_isTight (fun q z => ?_)
    rw [z.1]
    refine Tm_ite (fun _ => b3 _ _ _ _ h e rfl rfl) (fun _ => ?_)
    have h' := h
    obtain ⟨⟨c1, c2⟩, h2, h3, h4, g, l, t, K, K2, K3, K4, mi, h6⟩ := h'
    obtain ⟨_, qq, rt, qm⟩ := h6.resolve_right (fun y => y.1 e)
    refine Tm_oxk (Q := ExZ c B KB f0 u0 σ) (Tm_Bf (c_makeRoom mi.1 mi.2.1) (fun k => kb_f_X3_makeRoom _ _ _ _ hby)) (fun q z => by rw [z.1.1]) (fun q z => ?_)
    obtain ⟨rm, hb⟩ := z
    obtain ⟨g', l', t', mr⟩ := MIn_rm mi rm
    have f := rm.2.2.1
    have ee : ∀ j, ¬ (j = 1 ∨ j = 2403 ∨ j = 2404 ∨ j = 2405) → q.2.1.1 j = τ.1 j := f.1.1
    have d1 := rm.2.1.1
    have d2 := rm.2.1.2
    have er : q.2.1.1 1812 = 0 := (ee 1812 (by decide)).trans e
    refine b3 _ _ _ _ ⟨⟨by omega, by omega⟩, MFr_t h2 (MFr_R f), fun n j j1 j2 j3 => (ee j (by omega)).trans (h3 n j j1 j2 j3), hb, g', l', t', K, K2, K3, K4, mr, Or.inl ⟨er, qq, RunT_rm rt rm, ?_⟩⟩ er rfl rfl
    rw [mu_e (ee 1905 (by decide)) (ee 1814 (by decide))]; exact qm
end CUH
