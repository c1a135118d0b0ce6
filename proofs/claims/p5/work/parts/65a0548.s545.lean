section JnS545
/-! The house: program. -/
section DYU
variable {σ σ1 σ2 s s3 s4 : CS} {ρ : MS} {c : Ct} {gl : List Gn} {pr : Nat → Nat} {b : Bool} {sz V j n N e0 vg nc K : Nat} {XE : XEt} {L : LV} {v : Int32} {g : PRG} {E : En} {MD : Nat → Nat → Nat}
/-- the tape is empty -/
theorem tOK_0 (h1 : s.1 3701 = 0) (h2 : sN s 38 ≤ 32770) (h3 : tFit (s.2.2.1 38) (sN s 38)) : tOK s := by
  unfold tOK
  rw [h1]
  exact ⟨by decide, by show (0 : Int) ≤ _; omega, by decide, h2, h3⟩
/-- code that stands, behind the reading of another program -/
theorem cd_3 (a : EB b sz σ σ1) (d : RdK b sz σ1 σ2) (cd : CdL (!b) sz σ) (f3 : s.2.2.1 = σ2.2.2.1) (f5 : sN s = sN σ2) (k1 : sKd s (!b) = sKd σ2 b) (e1 : s.1 (fP (!b) 1) = σ.1 (fP (!b) 1)) : CdL (!b) sz s ∧ ∀ i, i < sz → cdr (!b) s i = cdr (!b) σ i := by
  obtain ⟨⟨a1, a2, a3⟩, ⟨a4, a5, a6⟩, ⟨a7, a8⟩, ⟨⟨a9, a10, a11⟩, a12, a13⟩⟩ := a
  obtain ⟨⟨d1, d2⟩, ⟨d3, d4, d5⟩, ⟨⟨d6, d7, d8⟩, d9, d10⟩, d11, d12, d13, d14, d15⟩ := d
  have en : cdn (!b) s = cdn b σ2 := by
    show sN s (pR0 (sKd s (!b))) = _
    rw [k1, f5]
  refine ⟨⟨e1.trans cd.1, by rw [en]; exact d12.1, by rw [en, f5]; exact d12.2⟩, fun i hi => ?_⟩
  show s.2.2.1 (pR0 (sKd s (!b))) i = σ.2.2.1 (pR0 (sKd σ (!b))) i
  rw [k1, f3]
  have w := (d11 i hi).1
  show cdr b σ2 i = _
  rw [w]
  show σ1.2.2.1 (pR0 (sKd σ1 b)) i = _
  rw [a12 b, if_pos rfl]
  rcases pR0_c (sKd σ (!b)) with z | z
  · rw [z, a4 43 (by have := pR_13 b; omega)]
  · rw [z, a4 51 (by have := pR_13 b; omega)]
/-- refused: all stands as it stood -/
theorem pg_no (h : IC XE j σ) (hj : j < 512) (eb : sOt σ = b) (a : EB b sz σ σ1) (d : RdK b sz σ1 σ2) (hz : CdL (sCur σ) sz σ) (f0 : s.1 3701 = 0) (f1 : ∀ j, ¬ (j = 3701 ∨ j = 7512) → s.1 j = σ2.1 j) (f2 : s.2.1 = σ2.2.1) (f3 : s.2.2.1 = σ2.2.2.1) (f4 : s.2.2.2.1 = σ2.2.2.2.1) (f5 : sN s = sN σ2) (f6 : sCur s = sCur σ2 ∧ sOt s = sOt σ2 ∧ sPr s = sPr σ2) (f7 : s.2.2.2.2.2.2 = σ2.2.2.2.2.2.2) (k1 : sKd s (!b) = sKd σ2 b) : IC XE (j + 1) s ∧ s.1 7510 = σ.1 7510 ∧ s.1 7511 = σ.1 7511 ∧ s.1 7513 = σ.1 7513 := by
  obtain ⟨n, sz', ⟨t1, t2, t3, t4⟩, ⟨p1, p2, p3, p4, p5, p6⟩, ⟨q1, q2, q3⟩, ⟨m1, m2⟩, pp⟩ := h
  have fr := PgFr_of a d (fun j hj => f1 j (by omega)) f2 f3 f4 f5 f6.2.2 f7
  have cu : sCur σ = !b := by rw [← eb, p1, Bool.not_not]
  have fm := PgFr_m fr
  obtain ⟨B, hB, fB, fB'⟩ := fP_B b
  have g1 := fB 1
  have g19 := fB 19
  have ff : ∀ i, i = 7510 ∨ i = 7511 ∨ i = 7513 ∨ i = 7517 ∨ i = 7518 → s.1 i = σ.1 i := fun i hi => by
    rw [f1 i (by omega), d.1.1 i (by omega), a.1.1 i (by omega)]
  have sz1 : sz = sz' := by
    have w := u_eq.1 (hz.1.symm.trans p5.1)
    have l1 := cdn_le hz
    have l2 := hz.2.1
    have l3 := p5.2.1
    rw [u_n (by omega), u_n (by omega)] at w
    exact w
  subst sz1
  rw [cu] at p5
  obtain ⟨cd, cc⟩ := cd_3 a d p5 f3 f5 k1 (PgFr_f fr (by omega))
  have cs : sCur s = !b := by rw [f6.1, d.2.2.1.1.1, a.2.2.2.1.1]; exact cu
  have n66 : sN s 66 = sN σ 66 := fr.2.1.2.1 66 (by omega)
  have rm := pRw_m b
  have m5 := pR56_m b
  refine ⟨⟨0, sz, ⟨tOK_0 f0 (by rw [f5]; exact d.2.2.2.2.2.2.1.1) (by rw [f3, f5]; exact d.2.2.2.2.2.2.1.2.1), f0, Nat.zero_le _, (fr.2.1.2.2 39 m5.2.2).trans t4⟩, ⟨?_, fun e => ?_, ?_, ?_, by rw [cs]; exact cd, by omega⟩, ⟨by rw [ff 7517 (by omega), n66]; exact q1, by rw [ff 7518 (by omega)]; exact q2, by rw [ff 7513 (by omega)]; exact q3⟩, ⟨Hmx_m fm m1, BY_m fm m2⟩, ?_⟩, ff 7510 (by omega), ff 7511 (by omega), ff 7513 (by omega)⟩
  · rw [cs, f6.2.1, d.2.2.1.1.2.1, a.2.2.2.1.2.1, eb, Bool.not_not]
  · by_cases z : e = b
    · subst z
      rw [f3]
      exact ⟨by rw [d.2.2.2.2.2.2.2.1, a.2.1.2.1.1]; exact (p2 e).1, by rw [d.2.2.2.2.2.2.2.2, a.2.1.2.1.2]; exact (p2 e).2⟩
    · have z' : e = !b := by cases e <;> cases b <;> first | rfl | exact absurd rfl z
      subst z'
      exact ⟨by rw [fr.2.1.1 _ (rm _ (by simp))]; exact (p2 _).1, by rw [fr.2.1.1 _ (rm _ (by simp))]; exact (p2 _).2⟩
  · rw [f5]; exact d.2.2.2.2.2.1.1
  · rw [f5]
    rcases d.2.2.2.2.2.1.2 with z | z
    · rw [z, a.2.2.1.2]; exact p4
    · exact Or.inr z
  · rw [ff 7510 (by omega), ff 7511 (by omega), ff 7513 (by omega)]
    refine pp.imp id (fun ⟨k0, gl, pr, c, k2, k3, k4⟩ => ⟨k0, gl, pr, c, k2, ?_, fun z => ?_⟩)
    · rw [cs]
      rw [cu] at k3
      exact PgFr_pg fr cc k3
    · obtain ⟨y1, y2, y3⟩ := k4 z
      rw [cu] at y1 y2
      rw [cs]
      have e9 : s.1 1903 = σ.1 1903 := fm.1.1 1903 (by decide) (by decide)
      exact ⟨fr.2.2.1.trans y1, Mst_m (PgFr_ct fr) fm (ct_M (fr.2.2.1.trans y1)) y2, by rw [e9]; omega⟩
end DYU
end JnS545
section JnS546
/-! The house: program, taken. -/
section DYV
variable {σ σ1 σ2 s s3 s4 : CS} {ρ : MS} {c : Ct} {gl : List Gn} {pr : Nat → Nat} {b : Bool} {sz V j n N e0 vg nc K : Nat} {XE : XEt} {L : LV} {v : Int32} {g : PRG} {E : En} {MD : Nat → Nat → Nat}
/-- a program moved down is typed -/
theorem PgT_dn (h : PgT E vg nc sz vg c) (de : DE E 0 vg nc vg) (hN : sz ≤ tcN c) : PgT E vg nc 0 vg (dnC c sz (fun v => tcE c v - sz) (tcP c) (tcF c)) := by
  obtain ⟨ti, dn, p1, p2, p3, p4⟩ := h
  have nc40 := de.2.1.2.2.1
  have lE : ∀ i, i < nc → sz ≤ tcE c (i + 1) := fun i hi => by
    obtain ⟨_, _, rk, _, _, e⟩ := p3 i hi
    exact p1 _ _ e
  refine ⟨TI_dn ti p1 hN (fun v h1 h2 => ⟨?_, rfl, rfl⟩) ⟨rfl, rfl⟩ (by omega), ?_, fun p x e => Nat.zero_le _, p2, fun i hi => ?_, p4⟩
  · obtain ⟨i, rfl⟩ : ∃ i, v = i + 1 := ⟨v - 1, by omega⟩
    have := lE i (by omega)
    show tcE c (i + 1) = tcE c (i + 1) - sz + sz
    omega
  · show tcD c (tcN c - sz + sz) = none
    rw [Nat.sub_add_cancel hN]
    exact dn
  · obtain ⟨a1, ⟨a2, a3, a4, a5⟩, rk, a6, a7, a8⟩ := p3 i hi
    have l := lE i hi
    refine ⟨a1, ⟨a2, a3, a4, ?_⟩, rk, a6, a7, ?_⟩
    · show tcE c (i + 1) - sz ≤ tcN c - sz
      omega
    · show tcD c (tcE c (i + 1) - sz + sz) = _
      rw [Nat.sub_add_cancel l]
      exact a8
/-- taken: the new program stands -/
theorem pg_yes (h : IC XE j σ) (hj : j < 512) (hn : σ.1 3701 = nI n) (n10 : n ≤ 20 * j) (eb : sOt σ = b) (a : EB b sz σ σ1) (d : RdK b sz σ1 σ2) (hz : CdL (sCur σ) sz σ) (pf : PFn b sz (2 * sz + 7 * n + 110) g σ2) (f0 : s3.1 3701 = 0) (f1 : ∀ j, ¬ (j = 3701 ∨ j = 7512) → s3.1 j = σ2.1 j) (f2 : s3.2.1 = σ2.2.1) (f3 : s3.2.2.1 = σ2.2.2.1) (f4 : s3.2.2.2.1 = σ2.2.2.2.1) (f5 : sN s3 = sN σ2) (f6 : sCur s3 = sCur σ2 ∧ sOt s3 = sOt σ2 ∧ sPr s3 = sPr σ2) (f7 : s3.2.2.2.2.2.2 = σ2.2.2.2.2.2.2) (k1 : sKd s3 b = sKd σ2 b) {Q : RS → Prop} (cont : ∀ s4 : CS, IC (some (g.2.1.1, g.2.1.2.2.2.2.2.2)) (j + 1) (uI (uI (uI (uOt (uCur s4 (sOt s4)) (sCur s4)) 7510 1) 7511 0) 7513 0) → PhC s4 = PhC σ2 ∧ PhS s4 = PhS σ2 → s4.1 3701 = 0 → (sOt s4 = b ∧ s4.1 (fP b 3) = s3.1 (fP b 3) ∧ s4.1 7512 = s3.1 7512 ∧ s4.1 (fP b 4) = s3.1 (fP b 4) ∧ s4.2.2.1 (pR16 b) = s3.2.2.1 (pR16 b)) → Tm (fun k => f_X11_program k 3 L (uI (uOt (uCur s4 (sOt s4)) (sCur s4)) 7510 1)) Q) : Tm (fun k => f_X11_program k 2 L s3) Q := by
  obtain ⟨n', sz', ⟨t1, t2, t3, t4⟩, ⟨p1, p2, p3, p4, p5, p6⟩, ⟨q1, q2, q3⟩, ⟨m1, m2⟩, pp⟩ := h
  have cu : sCur σ = !b := by rw [← eb, p1, Bool.not_not]
  obtain ⟨c, N, vg, e0, ⟨x1, x2, x3⟩, ⟨x4, x5, x6⟩, x7, x8, ⟨x9, ⟨x10, x10'⟩, x11⟩, ⟨x12, x13⟩, x14⟩ := pf
  have fr3 := PgFr_of a d (fun j hj => f1 j (by omega)) f2 f3 f4 f5 f6.2.2 f7
  obtain ⟨B, hB, fB, fB'⟩ := fP_B b
  have g1 := fB 1
  have g2 := fB 2
  have g12 := fB 12
  have g11 := fB 11
  have g19 := fB 19
  have k1' := fB' 1
  have nc40 := x3.2.1.2.2.1
  have vg60 := x3.2.1.2.1
  have rm := pRw_m b
  have m5 := pR56_m b
  have pr13 := pR_13 b
  have sc3 : sCur s3 = !b := by rw [f6.1, d.2.2.1.1.1, a.2.2.2.1.1]; exact cu
  have so3 : sOt s3 = b := by rw [f6.2.1, d.2.2.1.1.2.1, a.2.2.2.1.2.1]; exact eb
  have e1 : s3.1 (fP (!b) 1) = nI sz := by
    rw [PgFr_f fr3 (by omega), ← cu]
    exact hz.1
  have N36 : N ≤ 36864 := by have := x8.1.1; omega
  have cdn3 : cdn b s3 = cdn b σ2 := by
    show sN s3 (pR0 (sKd s3 b)) = _
    rw [k1, f5]
  refine Tm_suc (fun k => by rw [f_X11_program]) ?_
  rw [so3, sc3, e1]
  refine Tm_op (c_moveDown (L := lI (lB lZ 0 b) 1 (nI sz)) (b := b) (N := N) (far := sz) (e0 := e0) (nu := g.2.2.2.1) rfl rfl (by rw [f1 _ (by omega)]; exact x1.1) (by rw [f1 _ (by omega)]; exact x12) (by rw [f1 _ (by omega)]; exact x4) nc40 ⟨by omega, x10, by omega⟩ (by rw [cdn3]; exact x1.2.1) (by rw [cdn3]; exact cdn_le x1)) (fun r mv => ?_)
  obtain ⟨⟨v1, v2, v3⟩, v4, ⟨v5, v6, v7⟩, v8⟩ := mv
  have n4 : sN r.2 = sN s3 := by show r.2.2.2.2.2.1 = _; rw [v8]
  have l4 : r.2.2.2.2.1 = s3.2.2.2.1 := by rw [v8]
  have c4 : sCur r.2 = !b := by show r.2.2.2.2.2.2.1.1 = _; rw [v8]; exact sc3
  have o4 : sOt r.2 = b := by show r.2.2.2.2.2.2.1.2.1 = _; rw [v8]; exact so3
  have p4' : sPr r.2 = sPr s3 := by show r.2.2.2.2.2.2.1.2.2.1 = _; rw [v8]
  have k4 : sKd r.2 = sKd s3 := by show r.2.2.2.2.2.2.1.2.2.2.2 = _; rw [v8]
  have i4 : r.2.2.2.2.2.2.2 = s3.2.2.2.2.2.2 := by rw [v8]
  have p0 := pR0_c (sKd s3 b)
  have ph := Ph_s (σ := σ2) (σ' := r.2) (by show sN r.2 = sN σ2; rw [n4, f5])
  have g3 := fB 3
  refine cont r.2 ?_ ph (by rw [v1 _ (by omega)]; exact f0) ⟨o4, v1 _ (by omega), v1 _ (by omega), v1 _ (by have g4 := fB 4; omega), v5 _ (by omega)⟩
  generalize hS : uI (uI (uI (uOt (uCur r.2 (sOt r.2)) (sCur r.2)) 7510 1) 7511 0) 7513 0 = S
  have S1 : ∀ j, ¬ (7510 ≤ j ∧ j ≤ 7513) → S.1 j = r.2.1 j := fun j hj => by
    rw [← hS, uI_o (by omega), uI_o (by omega), uI_o (by omega)]
    rfl
  have S10 : S.1 7510 = 1 := by rw [← hS, uI_o (by decide), uI_o (by decide), uI_s]
  have S11 : S.1 7511 = 0 := by rw [← hS, uI_o (by decide), uI_s]
  have S13 : S.1 7513 = 0 := by rw [← hS, uI_s]
  have S2 : S.2.1 = r.2.2.1 := by rw [← hS]; rfl
  have S3 : S.2.2.1 = r.2.2.2.1 := by rw [← hS]; rfl
  have S4 : S.2.2.2.1 = r.2.2.2.2.1 := by rw [← hS]; rfl
  have S5 : sN S = sN r.2 := by rw [← hS]; rfl
  have Sc : sCur S = b := by rw [← hS]; exact o4
  have So : sOt S = !b := by rw [← hS]; exact c4
  have Sp : sPr S = sPr r.2 := by rw [← hS]; rfl
  have Sk : sKd S = sKd r.2 := by rw [← hS]; rfl
  have Si : S.2.2.2.2.2.2 = r.2.2.2.2.2.2.2 := by rw [← hS]; rfl
  clear hS
  have rS : ∀ k, ¬ (k = 43 ∨ k = 51 ∨ k = pR13 b) → S.2.2.1 k = σ2.2.2.1 k := fun k hk => by
    rw [S3, v5 k (by omega), f3]
  have fr : PgFr b σ S := by
    refine ⟨⟨fun j hj => ?_, fun j hj => ?_⟩, ⟨fun k hk => ?_, fun k hk => ?_, fun k hk => ?_⟩, ?_, ?_⟩
    · rw [S1 j (by omega), v1 j (by omega)]
      exact fr3.1.1 j hj
    · rw [S2, v4]
      exact fr3.1.2 j hj
    · rw [S3, v5 k (fun z => hk ?_)]
      · exact fr3.2.1.1 k hk
      · rcases z with z | z
        · rcases p0 with y | y
          · exact Or.inr (Or.inr (Or.inl (by omega)))
          · exact Or.inr (Or.inr (Or.inr (Or.inl (by omega))))
        · exact Or.inr (Or.inr (Or.inr (Or.inr (by unfold pRw; omega))))
    · rw [S5, n4]
      exact fr3.2.1.2.1 k hk
    · rw [S4, l4]
      exact fr3.2.1.2.2 k hk
    · rw [Sp, p4']
      exact fr3.2.2.1
    · rw [Si, i4]
      exact fr3.2.2.2
  have fm := PgFr_m fr
  have cdS : cdn b S = cdn b σ2 := by
    show sN S (pR0 (sKd S b)) = _
    rw [Sk, k4, k1, S5, n4, f5]
  have fS : ∀ i, 3 ≤ i → i ≤ 19 → S.1 (fP b i) = σ2.1 (fP b i) := fun i h1 h2 => by
    have gi := fB i
    rw [S1 _ (by omega), v1 _ (by omega), f1 _ (by omega)]
  have n66 : sN S 66 = sN σ 66 := fr.2.1.2.1 66 (by omega)
  have ff : ∀ i, i = 7517 ∨ i = 7518 → S.1 i = σ.1 i := fun i hi => fr.1.1 i (by omega)
  refine ⟨0, N - sz, ⟨tOK_0 (by rw [S1 _ (by omega), v1 _ (by omega)]; exact f0) (by rw [S5, n4, f5]; exact d.2.2.2.2.2.2.1.1) (by rw [rS 38 (by omega), S5, n4, f5]; exact d.2.2.2.2.2.2.1.2.1), (by rw [S1 _ (by omega), v1 _ (by omega)]; exact f0), Nat.zero_le _, (fr.2.1.2.2 39 m5.2.2).trans t4⟩, ⟨by rw [Sc, So], fun e => ?_, ?_, ?_, ?_, by omega⟩, ⟨by rw [ff 7517 (by omega), n66]; exact q1, by rw [ff 7518 (by omega)]; exact q2, by rw [S13]; decide⟩, ⟨Hmx_m fm m1, BY_m fm m2⟩, Or.inr ⟨by rw [S10]; decide, g.2.1.1, g.2.1.2.2.2.2.2.2, dnC c sz (fun v => tcE c v - sz) (tcP c) (tcF c), rfl, ?_, fun z => absurd S11 z⟩⟩
  · by_cases z : e = b
    · subst z
      refine ⟨by rw [rS _ (by omega)]; exact x5, ?_⟩
      rw [rS _ (by omega), d.2.2.2.2.2.2.2.2, a.2.1.2.1.2]
      exact (p2 e).2
    · have z' : e = !b := by cases e <;> cases b <;> first | rfl | exact absurd rfl z
      subst z'
      exact ⟨by rw [fr.2.1.1 _ (rm _ (by simp))]; exact (p2 _).1, by rw [fr.2.1.1 _ (rm _ (by simp))]; exact (p2 _).2⟩
  · rw [S5, n4, f5]; exact d.2.2.2.2.2.1.1
  · rw [S5, n4, f5]
    rcases d.2.2.2.2.2.1.2 with z | z
    · rw [z, a.2.2.1.2]; exact p4
    · exact Or.inr z
  · rw [Sc]
    refine ⟨by rw [S1 _ (by omega)]; exact v2, by rw [cdS]; have := x1.2.1; omega, ?_⟩
    rw [cdS, S5, n4, f5]
    exact x1.2.2
  · rw [Sc, S13]
    refine ⟨g.2.1, g.2.2.2.1, vg, e0 - sz, g.2.2.1, ⟨rfl, rfl⟩, ⟨TbR_s x2 (fS 11 (by decide) (by decide)) ?_ ?_ (rS _ (by omega)) (rS _ (by omega)) (rS _ (by omega)) (rS _ (by omega)), x3⟩, ⟨fun i hi => ?_, by rw [rS _ (by omega)]; exact x6⟩, PgT_dn x8 x3 (by omega), ⟨by show tcN c - sz = N - sz; rw [x9], fun i hi => ?_⟩, ⟨by rw [S1 _ (by omega)]; exact v3, by omega, ?_⟩, fun i hi => absurd hi (Nat.not_lt_zero _)⟩
    · rw [S4, l4, f4]
    · rw [S4, l4, f4]
    · obtain ⟨⟨y1, y2, y3⟩, y4⟩ := x7 i hi
      obtain ⟨_, ⟨_, _, _, b4⟩, rk, _, _, b5⟩ := x8.2.2.2.2.1 i hi
      have lE := x8.2.2.1 _ _ b5
      refine ⟨⟨?_, by rw [rS _ (by omega)]; exact y2, by rw [rS _ (by omega)]; exact y3⟩, fun j hj => by rw [rS _ (by omega)]; exact y4 j hj⟩
      rw [S3, v7 (i + 1), if_pos (by omega), f3, y1]
      show nI (tcE c (i + 1)) - nI sz = nI (tcE c (i + 1) - sz)
      exact u_eq.2 (by rw [u_sub (by rw [u_n (by omega), u_n (by omega)]; omega), u_n (by omega), u_n (by omega), u_n (by omega)])
    · show S.2.2.1 (pR0 (sKd S b)) i = tcC c (i + sz)
      rw [Sk, k4, S3, v6 i hi, f3, k1]
      exact x11 (i + sz) (by omega) (by omega)
    · show tcD c (e0 - sz + sz) = _
      rw [Nat.sub_add_cancel x10]
      exact x13
end DYV
end JnS546
