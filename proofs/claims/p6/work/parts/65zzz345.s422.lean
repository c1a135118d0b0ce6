/-! The class: one instruction. -/
section CUG
variable {g g' g2 : Nat → Prop} {l l' l2 : List Nat} {t t' t2 : Nat} {σ σ' σ2 τ τ' φ : CS} {L : LV} {x y z i : Int32} {M M' U U' : Nat → Int32} {K K' K0 K2 K2' K3 K3' K4 K4' KB : Nat → Option Int32} {c : Ct} {B f0 u0 a T : Nat} {fs : List FrT} {u d : Nat} {r r' : List Nat} {pb nf nc sq rk : Nat}
/-- so many places on top hold values, or pinned tuples -/
def TpV : Nat → List Nat → Nat → Prop
  | d, [], D => D ≤ d
  | d, e :: s, D => D ≤ d ∨ (500000 ≤ e ∧ e < 750000 ∧ TpV (e - 500000) s (D - (d + 1)))
theorem TpV_v {lo : Nat} : ∀ (r : List Nat) (hi d D : Nat), SL K lo hi d r → TpV d r D → D ≤ hi ∧ ∀ q, hi ≤ q + D → q < hi → K q = none ∨ K q = some mkT
  | [], hi, d, D, h, v => by
    have v' : D ≤ d := v
    have le := (SL_le _ _ _ h).2
    exact ⟨by omega, fun q h1 h2 => Or.inl (SL_top _ _ _ h q (by omega) h2)⟩
  | e :: s, hi, d, D, h, v => by
    have le := (SL_le _ _ _ h).2
    rcases v with v | ⟨v1, v2, v3⟩
    · exact ⟨by omega, fun q h1 h2 => Or.inl (SL_top _ _ _ h q (by omega) h2)⟩
    · obtain ⟨b, e', r', a1, a2, a3, a4, a5⟩ := h.2.2 (by unfold bsl; omega) (by omega)
      have p1 : pk e = 1 := if_neg (by omega)
      have p2 : pm e = mkT := by unfold pm; rw [if_neg (by omega), if_pos (by omega)]
      have p3 : e % 250000 = e - 500000 := by omega
      rw [p3] at a2
      rw [p1] at a1 a4
      rw [p2] at a4
      have z := TpV_v s b (e - 500000) (D - (d + 1)) a2 v3
      refine ⟨by omega, fun q h1 h2 => ?_⟩
      by_cases c1 : hi ≤ q + d
      · exact Or.inl (SL_top _ _ _ h q c1 h2)
      · by_cases c2 : q = b
        · exact Or.inr (a4 q (by omega) (by omega))
        · exact z.2 q (by omega) (by omega)
/-- what READ asks, and WRITE -/
def Ok8 (c : Ct) (pc u d : Nat) (r : List Nat) (rk op : Nat) (num : Int32) : Prop := ∃ P D, (uN (tcC c (pc + 2)) = P ∧ uN (tcC c (pc + 1)) = D ∧ pc + 3 + P ≤ tcN c) ∧ Wd (tcC c) (pc + 3) P ≤ D ∧ TpV d r D ∧ (op = 176 → uN num < 500000 ∧ HasM (500000 + uN num) r) ∧ (¬ op = 176 → uN num < tcF c 0) ∧ Nx c (pc + 3 + P) u (d + 1) r rk
def Ok9 (c : Ct) (pc u d : Nat) (r : List Nat) (rk op : Nat) (num : Int32) : Prop := ∃ P D, (uN (tcC c (pc + 2)) = P ∧ uN (tcC c (pc + 1)) = D ∧ pc + 3 + P ≤ tcN c) ∧ Wd (tcC c) (pc + 3) P + 1 ≤ D ∧ TpV d r D ∧ (1 ≤ d ∧ tcS c u) ∧ (op = 192 → uN num < 500000 ∧ HasM (500000 + uN num) r ∧ SlB r ∧ AllM (fun i => ¬ i = uN num) r) ∧ (¬ op = 192 → uN num < tcF c 0) ∧ Nx c (pc + 3 + P) u d r rk
/-- what an instruction asks -/
def OKI (c : Ct) (pc u d : Nat) (r : List Nat) (rk op : Nat) (num : Int32) : Prop := (op = 0 → Ok0 c pc u d r rk) ∧ (1 ≤ op → op < 10 → Ok1 c pc u d r rk op num) ∧ (10 ≤ op → op < 16 → u = 41 ∧ 1 ≤ d) ∧ (16 ≤ op → op < 32 → (op = 17 → pc + 1 < tcN c) ∧ Ok7 c pc u d r rk op num) ∧ (32 ≤ op → op < 48 → Ok2 c pc u d r rk op num) ∧ (48 ≤ op → op < 64 → Ok3 c pc u d r rk op num) ∧ (64 ≤ op → op < 80 → op ≤ 73 ∧ uN num < 200 ∧ Ok4 c pc u d r rk op (uN num)) ∧ (80 ≤ op → op < 96 → Ok5 c pc u d r rk op num) ∧ (96 ≤ op → op < 112 → Ok6 c pc u d r rk op num) ∧ (112 ≤ op → op < 128 → op = 112 ∧ 1 ≤ d ∧ ∃ e0 r1 rk', r = e0 :: r1 ∧ d + 1 < 250000 ∧ tcD c (pc + 1) = some (u + 100, 0, (750000 + (d + 1)) :: r, rk') ∧ (1000 ≤ rk' ∧ rk' ≤ rk) ∧ NxS c (pc + 2) u d r) ∧ (128 ≤ op → op < 144 → ∃ d', d = d' + 2 ∧ NxS c (pc + 1) u (d' + 1) r) ∧ ((144 ≤ op ∧ op < 160) ∨ 208 ≤ op → ∃ d', d = d' + uN num ∧ tcS c u ∧ Nx c (pc + 1) u d' r rk) ∧ (160 ≤ op → op < 176 → 1 ≤ d ∧ NxS c (pc + 1) u d r) ∧ (176 ≤ op → op < 192 → Ok8 c pc u d r rk op num) ∧ (192 ≤ op → op < 208 → Ok9 c pc u d r rk op num)
theorem IO_0 {q : RS} {m : Nat} (h : IO c B KB f0 u0 σ m q) : IO c B KB f0 u0 σ m ((0, 0), q.2.1, (q.2.2.1, q.2.2.2)) := by
  obtain ⟨h1, h2, h3⟩ := h
  exact ⟨rfl, ⟨h2.1, h2.2⟩, h3⟩
theorem Sd_0 {q : RS} (h : Sd c B KB f0 u0 σ q) : Sd c B KB f0 u0 σ ((0, 0), q.2.1, (q.2.2.1, q.2.2.2)) := by
  obtain ⟨h1, h2, h3⟩ := h
  exact ⟨rfl, ⟨h2.1, h2.2⟩, h3⟩
theorem Sd_b {q : RS} (a : Md σ σ') (es : σ'.2.2.2.2.1 = σ.2.2.2.2.1) (h : Sd c B KB f0 u0 σ' q) : Sd c B KB f0 u0 σ q := by
  obtain ⟨h1, h2, h3, h4, h5⟩ := h
  have ph := Ph_s es
  exact ⟨h1, ⟨by rw [← ph.1]; exact h2.1, by rw [← ph.2]; exact h2.2⟩, MFr_t (Md_M a) h3, fun n j j1 j2 j3 => (h4 n j j1 j2 j3).trans (Md_E a j j1 j2 j3), h5⟩
/-- the program's own variables -/
theorem gl_v (p : Pre c g l t K K2 K3 K4 B KB f0 u0 σ fs u d r pb nf nc sq) {n : Nat} (h : n < tcF c 0) : K (4 + n) = none ∧ 4 + n < uN (σ.1 1902) ∧ Gv g (σ.2.2.1 20 (4 + n)) := by
  have mi := p.1
  have mb := mi.2.2.2.2.2.2.1
  have kn : K (4 + n) = none := by
    rw [mi.2.2.2.2.2.1 _ (by omega)]
    rcases p.2.2.2.2 with y | y
    · exact (y.2 _ (by omega)).trans (KH_n (by omega))
    · exact (y.1 _).trans (KH_n (by omega))
  exact ⟨kn, by omega, (mi.2.1.1.2.2 _ (by omega)).2.1 kn⟩
theorem lo_v (p : Pre c g l t K K2 K3 K4 B KB f0 u0 σ fs u d r pb nf nc sq) {n : Nat} (hn : n < 500000) (h : HasM (500000 + n) r) : n < bt d r ∧ uN (σ.1 1901) + 4 + n < uN (σ.1 1902) ∧ Gv g (σ.2.2.1 20 (uN (σ.1 1901) + 4 + n)) := by
  have z := SL_hv hn _ _ _ p.2.1.1 h
  have ts := TyS_sp p.2.1
  exact ⟨z.1, by omega, Rwk_v p.1.2.1.1.2.2 (by omega) z.2⟩
theorem u41 : ∀ (fs : List FrT) (fp pb nf nc sq : Nat), FC c K K4 f0 u0 fs fp 41 pb nf nc sq → ¬ tcK c 41 → u0 = 41
  | [], fp, pb, nf, nc, sq, h, _ => h.2.1.symm
  | q :: fs, fp, pb, nf, nc, sq, h, n => by
    obtain ⟨⟨bk, rb, z2, z3, a, b, s, f1, f2, f3, k⟩, w⟩ := h
    rcases k with k | k
    · exact absurd k.1 n
    · exact absurd rfl k.1.2
theorem c_disp (p : Pre c g l t K K2 K3 K4 B KB f0 u0 σ fs u d r pb nf nc sq) (by0 : BY (tcS c u0) σ) {pc op : Nat} {b : Bool} {num : Int32} (eb : sPr σ = some b) (hk : L.2.2.1 1 = sKd σ b) (h4 : L.1 4 = nI pc) (tD : tcD c pc = some (u, d, r, rk)) (hop : tcC c pc &&& 255 = nI op) (ho : op < 256) (hnum : tcC c pc >>> ((8 : Int32) &&& 31) = num) (hp : pc + 1 ≤ tcN c) (hN : tcN c ≤ 36864) (hu : ¬ tcK c u0) (k41 : ¬ tcK c 41) (hz : tcS c u0 → f0 = 0 ∧ u0 = 0) (ck : OKI c pc u d r rk op num) {Q : RS → Prop} (cont : ∀ (L' : LV) (τ : CS) (n1 n2 : Nat), (IO c B KB f0 u0 σ (mu σ (qv nf sq rk)) ((0, 0), τ, (n1, n2)) ∨ Sd c B KB f0 u0 σ ((0, 0), τ, (n1, n2))) → BY (tcS c u0) τ → L'.2.1 2 = L.2.1 2 → L'.2.2.1 1 = L.2.2.1 1 → Tm (fun k => f_X3_execute k 19 L' τ) (fun q => Q (q.1, q.2.1, (n1 + q.2.2.1, n2 + q.2.2.2)))) : Tm (fun k => f_X3_execute k 5 L σ) Q := by
  have hpc1 : nI pc + 1 = nI (pc + 1) := u_eq.2 (by rw [u_inc (by rw [u_n (by omega)]; omega), u_n (by omega), u_n (by omega)])
  have p1 := Pre_i p (j := 1900) (Or.inr (Or.inl rfl)) (nI (pc + 1))
  have by1 : BY (tcS c u0) (uI σ 1900 (nI (pc + 1))) := BY_I (by decide) by0
  have md : Md σ (uI σ 1900 (nI (pc + 1))) := Md_i σ (by decide) _
  have hpc : (uI σ 1900 (nI (pc + 1))).1 1900 = nI (pc + 1) := uI_s
  have cr := Ct_row p.1.2.2.1 eb
  have cr1 : (uI σ 1900 (nI (pc + 1))).2.2.1 (pR0 (sKd σ b)) = tcC c := cr.1
  have c4 : (nI pc).toNatClampNeg = pc := by rw [u_cl (by rw [u_n (by omega)]; omega), u_n (by omega)]
  have i4 : ¬ (nI pc < 0 ∨ sN (uI σ 1900 (nI (pc + 1))) (pR0 (sKd σ b)) ≤ (nI pc).toNatClampNeg) := u_in (by show uN (nI pc) < sN σ (pR0 (sKd σ b)); rw [cr.2.1, u_n (by omega)]; omega) (by show sN σ (pR0 (sKd σ b)) ≤ _; rw [cr.2.1]; omega)
  have r13 : (uI σ 1900 (nI (pc + 1))).1 1813 = 0 := by rw [uI_o (by decide)]; exact (by0.2.2.2.2.2 p.2.2.2.1).1
  have r07 : tcS c u0 → (uI σ 1900 (nI (pc + 1))).1 1907 = 0 := fun cs => by rw [uI_o (by decide)]; exact (by0.2.2.2.2.2 p.2.2.2.1).2 cs
  generalize hω : uI σ 1900 (nI (pc + 1)) = ω at *
  have es : ω.2.2.2.2.1 = σ.2.2.2.2.1 := by rw [← hω]; rfl
  have mE : mu ω (qv nf sq rk) = mu σ (qv nf sq rk) := by rw [← hω]; exact mu_e (uI_o (by decide)) (uI_o (by decide)) _
  have hx : uN (ω.1 1900) = pc + 1 := by rw [hpc, u_n (by omega)]
  have io : ∀ {q : RS}, IO c B KB f0 u0 ω (mu ω (qv nf sq rk)) q → IO c B KB f0 u0 σ (mu σ (qv nf sq rk)) ((0, 0), q.2.1, (q.2.2.1, q.2.2.2)) := fun h => by
    rw [mE] at h
    exact IO_0 (IO_b md es h)
  have io2 : ∀ {τ : CS} {n1 n2 : Nat}, IO c B KB f0 u0 ω (mu ω (qv nf sq rk)) ((0, 0), τ, (n1 + 0, n2 + 0)) → IO c B KB f0 u0 σ (mu σ (qv nf sq rk)) ((0, 0), τ, (n1, n2)) := fun h => by
    rw [mE] at h
    exact IO_b md es h
  have sd : ∀ {q : RS}, Sd c B KB f0 u0 ω q → Sd c B KB f0 u0 σ ((0, 0), q.2.1, (q.2.2.1, q.2.2.2)) := fun h => Sd_0 (Sd_b md es h)
  obtain ⟨o0, o1, o10, o16, o32, o48, o64, o80, o96, o112, o128, o144, o160, o176, o192⟩ := ck
  have h16 : ∀ n, n < 256 → nI (op / 16) = nI n → op / 16 = n := fun n hn e => (op_n (by omega) hn).1 e
  obtain ⟨st1, st2, st3⟩ := p1.1.2.1.1
  have ts := TyS_sp p1.2.1
  have u1 : uN (1 : Int32) = 1 := rfl
  have ic : ∀ {q : RS}, IO c B KB f0 u0 ω (mu ω (qv nf sq rk)) q → q.1.1 = 0 := fun h => by rw [h.1]
  have fin : ∀ (L' : LV) (τ : CS), IO c B KB f0 u0 ω (mu ω (qv nf sq rk)) ((0, 0), τ, (0, 0)) → BY (tcS c u0) τ → L'.2.1 2 = L.2.1 2 → L'.2.2.1 1 = L.2.2.1 1 → Tm (fun k => f_X3_execute k 19 L' τ) Q := by
    intro L' τ h hb e1 e2
    refine Tm_mono (cont L' τ 0 0 (Or.inl (io h)) hb e1 e2) (fun q z => ?_)
    rw [Nat.zero_add, Nat.zero_add] at z
    exact z
  have s2 : 1 ≤ d → uN (ω.1 1902 - 1) = uN (ω.1 1902) - 1 := fun h => by rw [u_sub (by omega), u1]
  have gtop : 1 ≤ d → Gv g (ω.2.2.1 20 (ω.1 1902 - 1).toNatClampNeg) := fun h => by rw [u_cl (by have := s2 h; omega), s2 h]; exact Ty_v p1 (by omega) (by omega)
  have itop : 1 ≤ d → ¬ (ω.1 1902 - 1 < 0 ∨ sN ω 20 ≤ (ω.1 1902 - 1).toNatClampNeg) := fun h => u_in (by have := s2 h; omega) (by omega)
  have b21 : ∀ (L' : LV) (n : Nat), uN (L'.1 100) = n → n < uN (ω.1 1902) → Gv g (ω.2.2.1 20 n) → L'.1 4 = nI pc → L'.2.1 2 = L.2.1 2 → L'.2.2.1 1 = L.2.2.1 1 → Ok8 c pc u d r rk op num → Tm (fun k => f_X3_execute k 21 L' ω) Q := by
    intro L' n l1 ln gn l4 e1 e2 ok
    obtain ⟨P, D, ⟨q1, q2, q3⟩, q4, q5, q6, q7, q8⟩ := ok
    have tv := TpV_v _ _ _ _ p1.2.1.1 q5
    refine Tm_suc (fun k => by rw [f_X3_execute]) ?_
    exact Tm_oxc (Tm_Bf (c_read p1 l4 q1 q2 q3 hN (by show uN (L'.1 100) < _; rw [l1]; exact ln) tv.1 q4 tv.2 (by show Gv g (ω.2.2.1 20 (uN (L'.1 100))); rw [l1]; exact gn) q8) (fun k => kb_f_X3_read _ _ _ _ by1)) (fun q z => z.1.1) (fun q z => cont _ _ _ _ (Or.inl (io2 z.1.2)) z.2 e1 e2)
  have b25 : ∀ (L' : LV) (n : Nat), uN (L'.1 102) = n → n < uN (ω.1 1902) → Gv g (ω.2.2.1 20 n) → SlW K (uN (ω.1 1901)) d r n → L'.1 101 = nI pc → L'.2.1 2 = L.2.1 2 → L'.2.2.1 1 = L.2.2.1 1 → Ok9 c pc u d r rk op num → Tm (fun k => f_X3_execute k 25 L' ω) Q := by
    intro L' n l1 ln gn sl l4 e1 e2 ok
    obtain ⟨P, D, ⟨q1, q2, q3⟩, q4, q5, ⟨q6, q7⟩, q8, q9, q10⟩ := ok
    have tv := TpV_v _ _ _ _ p1.2.1.1 q5
    refine Tm_suc (fun k => by rw [f_X3_execute]) ?_
    exact Tm_oxc (Tm_Bf (c_writeM p1 (FC_S _ _ _ _ _ _ _ p1.2.1.2.1 q7) l1 l4 q1 q2 q3 hN q6 ln sl tv.1 q4 tv.2 gn q10) (fun k => kb_f_X3_write _ _ _ _ by1)) (fun q z => z.1.1) (fun q z => cont _ _ _ _ (Or.inl (io2 z.1.2)) z.2 e1 e2)
  have gl := fun (n : Nat) (h : n < tcF c 0) => gl_v p1 h
  have lv := fun (n : Nat) (h : n < 500000) (h2 : HasM (500000 + n) r) => lo_v p1 h h2
  have ug : uN num < 91000 → uN (4 + num) = 4 + uN num := fun h => by rw [u_add (by show uN (4 : Int32) + _ < _; have : uN (4 : Int32) = 4 := rfl; omega)]; rfl
  have ul : uN num < 91000 → uN (ω.1 1901 + 4 + num) = uN (ω.1 1901) + 4 + uN num := fun h => by
    have e4 : uN (4 : Int32) = 4 := rfl
    rw [u_add (by rw [u_add (by omega), e4]; omega), u_add (by omega), e4]
  have b15 : ∀ L' : LV, L'.1 6 = num → L'.2.1 2 = L.2.1 2 → L'.2.2.1 1 = L.2.2.1 1 → (∃ d', d = d' + uN num ∧ tcS c u ∧ Nx c (pc + 1) u d' r rk) → Tm (fun k => f_X3_execute k 15 L' ω) Q := by
    intro L' l6 e1 e2 hh
    obtain ⟨d', q1, q2, q3⟩ := hh
    refine Tm_suc (fun k => by rw [f_X3_execute]) ?_
    rw [l6]
    exact Tm_oxc (Tm_Bf (c_printM p1 (FC_S _ _ _ _ _ _ _ p1.2.1.2.1 q2) by1 q1 rfl (by rw [hx]; exact q3)) (fun k => kb_f_X3_print _ _ _ _ by1)) (fun q z => z.1.1) (fun q z => cont _ _ _ _ (Or.inl (io2 z.1.2)) z.2 e1 e2)
  refine Tm_suc (fun k => by rw [f_X3_execute]) ?_
  rw [hk, h4, hpc1, hω]
  refine Tm_chk i4 (Tm_chk i4 ?_)
  rw [cr1, c4, hop, n_shr4 (by omega), hnum]
  refine Tm_ite (fun q => ?_) (fun n0 => Tm_ite (fun q => ?_) (fun n1 => Tm_ite (fun q => ?_) (fun n2 => Tm_ite (fun q => ?_) (fun n3 => Tm_ite (fun q => ?_) (fun n4 => Tm_ite (fun q => ?_) (fun n5 => Tm_ite (fun q => ?_) (fun n6 => Tm_ite (fun q => ?_) (fun n7 => Tm_ite (fun q => ?_) (fun n8 => Tm_ite (fun q => ?_) (fun n9 => Tm_ite (fun q => ?_) (fun n10 => Tm_ite (fun q => ?_) (fun n11 => Tm_ite (fun q => ?_) (fun n12 => ?_)))))))))))))
  · have h := h16 0 (by decide) q
    refine Tm_suc (fun k => by rw [f_X3_execute]) ?_
    by_cases z0 : op = 0
    · have ok := o0 z0
      have ok' := ok
      obtain ⟨d0, w, ms, k1, k2, k3, k4, cs, k6, k7⟩ := ok'
      have cs0 := FC_S _ _ _ _ _ _ _ p1.2.1.2.1 cs
      exact Tm_oxc (Tm_Bf (c_begin p1 (hz cs0) (by show nI op = 0; rw [z0]; rfl) h4 hp hN hpc (r07 cs0) tD ok) (fun k => kb_f_X3_flow _ _ _ _ by1)) (fun q z => z.1.elim (fun y => by rw [y.1]) (fun y => by rw [y.1])) (fun q z => cont _ _ _ _ (z.1.imp io sd) z.2 rfl rfl)
    · by_cases z1 : op < 10
      · exact Tm_oxc (Tm_Bf (c_flow p1 (by omega) z1 rfl h4 hp hN hpc (fun z => (hz z).1) (o1 (by omega) z1)) (fun k => kb_f_X3_flow _ _ _ _ by1)) (fun q z => ic z.1) (fun q z => cont _ _ _ _ (Or.inl (io z.1)) z.2 rfl rfl)
      · obtain ⟨k1, k2⟩ := o10 (by omega) (by omega)
        have k3 : u0 = 41 := by
          have f := p1.2.1.2.1
          rw [k1] at f
          exact u41 _ _ _ _ _ _ f k41
        exact Tm_oxc (Tm_Bf (c_endView p1 k2 k3 (by omega) ho rfl) (fun k => kb_f_X3_flow _ _ _ _ by1)) (fun q z => by rw [z.1.1]) (fun q z => cont _ _ _ _ (Or.inr (sd z.1)) z.2 rfl rfl)
  · have h := h16 1 (by decide) q
    obtain ⟨k1, k2⟩ := o16 (by omega) (by omega)
    refine Tm_suc (fun k => by rw [f_X3_execute]) ?_
    exact Tm_oxc (Tm_Bf (c_calls p1 (by omega) ho rfl hp k1 hN hpc hu hz k2) (fun k => kb_f_X3_callsAndPoints _ _ _ _ by1)) (fun q z => ic z.1) (fun q z => cont _ _ _ _ (Or.inl (io z.1)) z.2 rfl rfl)
  · have h := h16 2 (by decide) q
    refine Tm_suc (fun k => by rw [f_X3_execute]) ?_
    exact Tm_oxc (Tm_Bf (c_data p1 ho (by omega) rfl h4 hp hN hpc (o32 (by omega) (by omega))) (fun k => kb_f_X3_data _ _ _ _ by1)) (fun q z => ic z.1) (fun q z => cont _ _ _ _ (Or.inl (io z.1)) z.2 rfl rfl)
  · have h := h16 3 (by decide) q
    refine Tm_suc (fun k => by rw [f_X3_execute]) ?_
    exact Tm_oxc (Tm_Bf (c_makeValue p1 ho (by omega) rfl hp hN hpc (o48 (by omega) (by omega))) (fun k => kb_f_X3_makeValue _ _ _ _ by1)) (fun q z => ic z.1) (fun q z => cont _ _ _ _ (Or.inl (io z.1)) z.2 rfl rfl)
  · have h := h16 4 (by decide) q
    obtain ⟨k1, k2, k3⟩ := o64 (by omega) (by omega)
    refine Tm_suc (fun k => by rw [f_X3_execute]) ?_
    exact Tm_oxc (Tm_Bf (c_iterate p1 (by omega) k1 rfl h4 hp hN hpc k2 r13 k3) (fun k => kb_f_X3_iterate _ _ _ _ by1)) (fun q z => ic z.1) (fun q z => cont _ _ _ _ (Or.inl (io z.1)) z.2 rfl rfl)
  · have h := h16 5 (by decide) q
    refine Tm_suc (fun k => by rw [f_X3_execute]) ?_
    exact Tm_oxc (Tm_Bf (c_gather p1 ho (by omega) rfl hp hN hpc (o80 (by omega) (by omega))) (fun k => kb_f_X3_gather _ _ _ _ by1)) (fun q z => ic z.1) (fun q z => cont _ _ _ _ (Or.inl (io z.1)) z.2 rfl rfl)
  · have h := h16 6 (by decide) q
    refine Tm_suc (fun k => by rw [f_X3_execute]) ?_
    exact Tm_oxc (Tm_Bf (c_partly p1 ho (by omega) rfl h4 hp hN hpc (o96 (by omega) (by omega))) (fun k => kb_f_X3_partly _ _ _ _ by1)) (fun q z => ic z.1) (fun q z => cont _ _ _ _ (Or.inl (io z.1)) z.2 rfl rfl)
  · have h := h16 7 (by decide) q
    obtain ⟨k1, k2, e0, r1, rk', k3, k4, k5, k6, k7⟩ := o112 (by omega) (by omega)
    have fo : Tm (fun k => f_X3_foldOn k 0 (lI (lI (lI lZ 1 (nI op)) 2 num) 3 (L.1 4)) ω) (IO c B KB f0 u0 ω (mu ω (qv nf sq rk))) := by
      refine Tm_suc (fun k => by rw [f_X3_foldOn]) ?_
      refine Tm_yes (by show nI op = 112; rw [k1]; rfl) ?_
      exact Tm_oxc (c_fold p1 k2 hp hN hpc k3 k4 k5 k6 k7) (fun q z => z.1) (fun q z => Tm_some z.2)
    refine Tm_suc (fun k => by rw [f_X3_execute]) ?_
    exact Tm_oxc (Tm_Bf fo (fun k => kb_f_X3_foldOn _ _ _ _ by1)) (fun q z => ic z.1) (fun q z => cont _ _ _ _ (Or.inl (io z.1)) z.2 rfl rfl)
  · have h := h16 8 (by decide) q
    obtain ⟨d', k1, k2⟩ := o128 (by omega) (by omega)
    obtain ⟨pd, es2⟩ := Pre_dr (x := 1) (d' := d' + 1) (n := 1) p1 (by omega) rfl k2.choose_spec.2.2
    have t2' : d' + 2 ≤ uN (ω.1 1902) := by have := ts.1; omega
    have ea : uN (ω.1 1902 - 1 - 1) = uN (ω.1 1902) - 2 := by rw [u_sub (by rw [es2, u1]; omega), es2, u1]; omega
    have ga : Gv g (ω.2.2.1 20 (ω.1 1902 - 1 - 1).toNatClampNeg) := by rw [u_cl (by rw [ea]; omega), ea]; exact Ty_v p1 (by omega) (by omega)
    have byd : BY (tcS c u0) (uI ω 1902 (ω.1 1902 - 1)) := BY_I (by decide) by1
    refine Tm_suc (fun k => by rw [f_X3_execute]) ?_
    refine Tm_chk (u_in (by show uN (ω.1 1902 - 1 - 1) < sN ω 20; omega) (by show sN ω 20 ≤ _; omega)) ?_
    refine Tm_chk (u_in (by show uN (ω.1 1902 - 1) < sN ω 20; omega) (by show sN ω 20 ≤ _; omega)) ?_
    refine Tm_op (Tm_By (c_binary pd.1.1 ga (gtop (by omega))) (fun k => kb_y_X0_binary _ _ _ _ byd)) (fun q3 z => ?_)
    obtain ⟨⟨g', l', t', ga', v⟩, by3⟩ := z
    refine Tm_op (Tm_By (reX (σ := ω) (Pre_Ga pd ga') (by omega) (Md_t (Md_i ω (by decide) _) (Md_S (Sm_A ga'.2.2.2.2))) (by rw [ga'.2.2.2.2.2.2.2]; rfl) (ga'.2.2.2.2.1 1905 (by decide)) (ga'.2.2.2.2.1 1814 (by decide)) (v.elim id Gv_rw) (by rw [ga'.2.2.2.2.1 1900 (by decide)]; show NxS c (uN (ω.1 1900)) u (d' + 1) r; rw [hx]; exact k2) (qv nf sq rk)) (fun k => kb_y_X3_replace _ _ _ _ by3)) (fun q4 z4 => ?_)
    exact fin _ _ z4.1 z4.2 rfl rfl
  · have h := h16 9 (by decide) q
    exact b15 _ rfl rfl rfl (o144 (Or.inl ⟨by omega, by omega⟩))
  · have h := h16 10 (by decide) q
    obtain ⟨k1, k2⟩ := o160 (by omega) (by omega)
    refine Tm_suc (fun k => by rw [f_X3_execute]) ?_
    refine Tm_chk (itop k1) ?_
    refine Tm_oxc (Tm_Bf (c_unary p1.1.1 (gtop k1)) (fun k => kb_f_X0_unary _ _ _ _ by1)) (fun q z => z.1.1) (fun q3 z => ?_)
    obtain ⟨⟨z1, z2, g', l', t', ga', v⟩, by3⟩ := z
    rw [z2]
    refine Tm_mono (Q := Q) ?_ (fun q z => by
      show Q (q.1, q.2.1, (0 + q.2.2.1, 0 + q.2.2.2))
      rw [Nat.zero_add, Nat.zero_add]; exact z)
    refine Tm_op (Tm_By (reX (σ := ω) (Pre_Ga p1 ga') k1 (Md_S (Sm_A ga'.2.2.2.2)) (by rw [ga'.2.2.2.2.2.2.2]) (ga'.2.2.2.2.1 1905 (by decide)) (ga'.2.2.2.2.1 1814 (by decide)) (v.elim id Gv_rw) (by rw [ga'.2.2.2.2.1 1900 (by decide), hx]; exact k2) (qv nf sq rk)) (fun k => kb_y_X3_replace _ _ _ _ by3)) (fun q4 z4 => ?_)
    exact fin _ _ z4.1 z4.2 rfl rfl
  · have h := h16 11 (by decide) q
    have ok := o176 (by omega) (by omega)
    have ok' := ok
    obtain ⟨P, D, q1, q4, q5, q6, q7, q8⟩ := ok'
    refine Tm_suc (fun k => by rw [f_X3_execute]) ?_
    refine Tm_ite (fun c1 => ?_) (fun c1 => ?_)
    · have z := q6 ((op_n ho (by decide)).1 c1)
      have w := lv _ z.1 z.2
      exact b21 _ _ (ul (by omega)) w.2.1 w.2.2 h4 rfl rfl ok
    · have z := q7 (fun e => c1 (by show nI op = 176; rw [e]; rfl))
      have w := gl _ z
      refine Tm_suc (fun k => by rw [f_X3_execute]) ?_
      exact b21 _ _ (ug (by omega)) w.2.1 w.2.2 h4 rfl rfl ok
  · have h := h16 12 (by decide) q
    have ok := o192 (by omega) (by omega)
    have ok' := ok
    obtain ⟨P, D, q1, q4, q5, q6, q7, q8, q9⟩ := ok'
    have b23 : ∀ (L' : LV) (n : Nat), uN (L'.1 100) = n → n < uN (ω.1 1902) → Gv g (ω.2.2.1 20 n) → SlW K (uN (ω.1 1901)) d r n → L'.1 4 = nI pc → L'.2.1 2 = L.2.1 2 → L'.2.2.1 1 = L.2.2.1 1 → Tm (fun k => f_X3_execute k 23 L' ω) Q := by
      intro L' n l1 ln gn sl l4 e1 e2
      refine Tm_suc (fun k => by rw [f_X3_execute]) ?_
      refine Tm_ite (fun _ => b25 _ n l1 ln gn sl l4 e1 e2 ok) (fun _ => ?_)
      refine Tm_suc (fun k => by rw [f_X3_execute]) ?_
      exact b25 _ n l1 ln gn sl l4 e1 e2 ok
    refine Tm_suc (fun k => by rw [f_X3_execute]) ?_
    refine Tm_ite (fun c1 => ?_) (fun c1 => ?_)
    · have z := q7 ((op_n ho (by decide)).1 c1)
      have w := lv _ z.1 z.2.1
      exact b23 _ _ (ul (by omega)) w.2.1 w.2.2 (Or.inr ⟨_, rfl, w.1, z.2.2.1, z.2.2.2⟩) h4 rfl rfl
    · have z := q8 (fun e => c1 (by show nI op = 192; rw [e]; rfl))
      have w := gl _ z
      refine Tm_suc (fun k => by rw [f_X3_execute]) ?_
      exact b23 _ _ (ug (by omega)) w.2.1 w.2.2 (Or.inl w.1) h4 rfl rfl
  · have oo : ∀ n, ¬ nI (op / 16) = nI n → ¬ op / 16 = n := fun n z e => z (by rw [e])
    have m0 := oo 0 n0
    have m1 := oo 1 n1
    have m2 := oo 2 n2
    have m3 := oo 3 n3
    have m4 := oo 4 n4
    have m5 := oo 5 n5
    have m6 := oo 6 n6
    have m7 := oo 7 n7
    have m8 := oo 8 n8
    have m9 := oo 9 n9
    have m10 := oo 10 n10
    have m11 := oo 11 n11
    have m12 := oo 12 n12
    exact b15 _ rfl rfl rfl (o144 (Or.inr (by omega)))
end CUG
