/-! The house: program. -/
section DYU
variable {σ σ1 σ2 s s3 s4 : CS} {ρ : MS} {c : Ct} {gl : List Gn} {pr : Nat → Nat} {b : Bool} {sz V j n N e0 vg nc K : Nat} {XE : XEt} {L : LV} {v : Int32} {g : PRG} {E : En} {MD : Nat → Nat → Nat}
/-- the tape is empty -/
theorem tOK_0 (h1 : s.1 3701 = 0) (h2 : sN s 38 ≤ 32770) (h3 : tFit (s.2.2.1 38) (sN s 38)) : tOK s := by
  unfold tOK
  rw [h1]
  exact ⟨by decide, by show (0 : Int) ≤ _; omega, by decide, h2, h3⟩
/-- code that stands, behind the reading of another program -/
theorem cd_3 (a : EB b sz σ σ1) (d : RdK b sz σ1 σ2) (cd : CdL (!b) sz σ) (f3 : s.2.2.1 = σ2.2.2.1) (f5 : sN s = sN σ2) (k1 : sKd s (!b) = sKd σ2 b) (e1 : s.1 (fP (!b) 1) = σ.1 (fP (!b) 1)) : CdL (!b) sz s ∧ ∀ i, i < sz → cdr (!b) s i = cdr (!b) σ i := by
  obtain ⟨⟨a1, a2, a3⟩, ⟨a4, a5, a6⟩, ⟨a7, a8⟩, ⟨⟨a9, a10, a11⟩, a12, a13⟩⟩ := a
  obtain ⟨⟨d1, d2⟩, ⟨d3, d4, d5⟩, ⟨⟨d6, d7, d8⟩, d9, d10⟩, d11, d12, d13, d14, d15⟩ := d
  have en : cdn (!b) s = cdn b σ2 := by
    show sN s (pR0 (sKd s (!b))) = _
    rw [k1, f5]
  refine ⟨⟨e1.trans cd.1, by rw [en]; exact d12.1, by rw [en, f5]; exact d12.2⟩, fun i hi => ?_⟩
  show s.2.2.1 (pR0 (sKd s (!b))) i = σ.2.2.1 (pR0 (sKd σ (!b))) i
  rw [k1, f3]
  have w := (d11 i hi).1
  show cdr b σ2 i = _
  rw [w]
  show σ1.2.2.1 (pR0 (sKd σ1 b)) i = _
  rw [a12 b, if_pos rfl]
  rcases pR0_c (sKd σ (!b)) with z | z
  · rw [z, a4 43 (by have := pR_13 b; omega)]
  · rw [z, a4 51 (by have := pR_13 b; omega)]
/-- refused: all stands as it stood -/
theorem pg_no (h : IC XE j σ) (hj : j < 512) (eb : sOt σ = b) (a : EB b sz σ σ1) (d : RdK b sz σ1 σ2) (hz : CdL (sCur σ) sz σ) (f0 : s.1 3701 = 0) (f1 : ∀ j, ¬ (j = 3701 ∨ j = 7512) → s.1 j = σ2.1 j) (f2 : s.2.1 = σ2.2.1) (f3 : s.2.2.1 = σ2.2.2.1) (f4 : s.2.2.2.1 = σ2.2.2.2.1) (f5 : sN s = sN σ2) (f6 : sCur s = sCur σ2 ∧ sOt s = sOt σ2 ∧ sPr s = sPr σ2) (f7 : s.2.2.2.2.2.2 = σ2.2.2.2.2.2.2) (k1 : sKd s (!b) = sKd σ2 b) : IC XE (j + 1) s ∧ s.1 7510 = σ.1 7510 ∧ s.1 7511 = σ.1 7511 ∧ s.1 7513 = σ.1 7513 := by
  obtain ⟨n, sz', ⟨t1, t2, t3, t4⟩, ⟨p1, p2, p3, p4, p5, p6⟩, ⟨q1, q2, q3⟩, ⟨m1, m2⟩, pp⟩ := h
  have fr := PgFr_of a d (fun j hj => f1 j (by omega)) f2 f3 f4 f5 f6.2.2 f7
  have cu : sCur σ = !b := by rw [← eb, p1, Bool.not_not]
  have fm := PgFr_m fr
  obtain ⟨B, hB, fB, fB'⟩ := fP_B b
  have g1 := fB 1
  have g19 := fB 19
  have ff : ∀ i, i = 7510 ∨ i = 7511 ∨ i = 7513 ∨ i = 7517 ∨ i = 7518 → s.1 i = σ.1 i := fun i hi => by
    rw [f1 i (by omega), d.1.1 i (by omega), a.1.1 i (by omega)]
  have sz1 : sz = sz' := by
    have w := u_eq.1 (hz.1.symm.trans p5.1)
    have l1 := cdn_le hz
    have l2 := hz.2.1
    have l3 := p5.2.1
    rw [u_n (by omega), u_n (by omega)] at w
    exact w
  subst sz1
  rw [cu] at p5
  obtain ⟨cd, cc⟩ := cd_3 a d p5 f3 f5 k1 (PgFr_f fr (by omega))
  have cs : sCur s = !b := by rw [f6.1, d.2.2.1.1.1, a.2.2.2.1.1]; exact cu
  have n66 : sN s 66 = sN σ 66 := fr.2.1.2.1 66 (by omega)
  have rm := pRw_m b
  have m5 := pR56_m b
  refine ⟨⟨0, sz, ⟨tOK_0 f0 (by rw [f5]; exact d.2.2.2.2.2.2.1.1) (by rw [f3, f5]; exact d.2.2.2.2.2.2.1.2.1), f0, Nat.zero_le _, (fr.2.1.2.2 39 m5.2.2).trans t4⟩, ⟨?_, fun e => ?_, ?_, ?_, by rw [cs]; exact cd, by omega⟩, ⟨by rw [ff 7517 (by omega), n66]; exact q1, by rw [ff 7518 (by omega)]; exact q2, by rw [ff 7513 (by omega)]; exact q3⟩, ⟨Hmx_m fm m1, BY_m fm m2⟩, ?_⟩, ff 7510 (by omega), ff 7511 (by omega), ff 7513 (by omega)⟩
  · rw [cs, f6.2.1, d.2.2.1.1.2.1, a.2.2.2.1.2.1, eb, Bool.not_not]
  · by_cases z : e = b
    · subst z
      rw [f3]
      exact ⟨by rw [d.2.2.2.2.2.2.2.1, a.2.1.2.1.1]; exact (p2 e).1, by rw [d.2.2.2.2.2.2.2.2, a.2.1.2.1.2]; exact (p2 e).2⟩
    · have z' : e = !b := by cases e <;> cases b <;> first | rfl | exact absurd rfl z
      subst z'
      exact ⟨by rw [fr.2.1.1 _ (rm _ (by simp))]; exact (p2 _).1, by rw [fr.2.1.1 _ (rm _ (by simp))]; exact (p2 _).2⟩
  · rw [f5]; exact d.2.2.2.2.2.1.1
  · rw [f5]
    rcases d.2.2.2.2.2.1.2 with z | z
    · rw [z, a.2.2.1.2]; exact p4
    · exact Or.inr z
  · rw [ff 7510 (by omega), ff 7511 (by omega), ff 7513 (by omega)]
    refine pp.imp id (fun ⟨k0, gl, pr, c, k2, k3, k4⟩ => ⟨k0, gl, pr, c, k2, ?_, fun z => ?_⟩)
    · rw [cs]
      rw [cu] at k3
      exact PgFr_pg fr cc k3
    · obtain ⟨y1, y2, y3⟩ := k4 z
      rw [cu] at y1 y2
      rw [cs]
      have e9 : s.1 1903 = σ.1 1903 := fm.1.1 1903 (by decide) (by decide)
      exact ⟨fr.2.2.1.trans y1, Mst_m (PgFr_ct fr) fm (ct_M (fr.2.2.1.trans y1)) y2, by rw [e9]; omega⟩
end DYU
