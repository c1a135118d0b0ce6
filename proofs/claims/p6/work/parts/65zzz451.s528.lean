/-! The class: units, typed. -/
section DYF
variable {c c' c1 c2 : Ct} {O H : Nat → Prop} {u nu R R' p d rk k w n m N N0 vg W F ρ np v Bd ns : Nat} {r ms : List Nat} {Vm : Nat → Prop} {Pc : Nat → Nat → Prop} {cs : List Int32} {gl : Nat × (Nat → Nat → Prop)} {C : Nat → Int32} {E E1 : En} {isF : Prop}
abbrev noP : Nat → Prop := fun _ => False
theorem TI_RF (t : TI noP H nu R c) (R' : Nat) : TI noP H nu R' c := by
  obtain ⟨t1, t2, th, t3, t4⟩ := t
  refine ⟨t1, t2, th, t3, fun pc x e hp => ?_⟩
  rcases t4 pc x e hp with z | ⟨l, Rp, z1, z2, z3, z4, z5⟩
  · exact Or.inl z
  · exact Or.inr ⟨l, R', z1, z2, Nat.le_refl _, z4, fun c' a b _ => z5 c' a b (fun _ _ o => o.elim)⟩
/-- units and names, as the code has them -/
def PgU (E : En) (vg nu N0 W : Nat) (c : Ct) : Prop := (∀ p x, tcD c p = some x → N0 ≤ p) ∧ ((vg ≤ tcF c 0 ∧ tcF c 0 = W) ∧ ¬ tcK c 0 ∧ ¬ tcK c 41 ∧ tcF c 41 = 0) ∧ (∀ i, i < nu → tcP c (i + 1) = E.2.2.2.2.2.2 i ∧ (tcP c (i + 1) ≤ tcF c (i + 1) ∧ tcP c (i + 1) ≤ 8 ∧ tcF c (i + 1) ≤ 60 ∧ tcE c (i + 1) ≤ tcN c) ∧ ∃ rk, rk ≤ RK ∧ (¬ tcK c (i + 1) → rk ≤ 2) ∧ tcD c (tcE c (i + 1)) = some (i + 1, 0, (bsl + tcF c (i + 1)) :: Vl (tcF c (i + 1)), rk)) ∧ ∀ x, x ∈ E.1 → (x.2.2.1 = 2 → x.2.2.2 < nu ∧ tcK c (x.2.2.2 + 1)) ∧ (x.2.2.1 = 3 → x.2.2.2 < nu ∧ ¬ tcK c (x.2.2.2 + 1))
def PgT (E : En) (vg nu N0 W : Nat) (c : Ct) : Prop := TI noP noP nu RK c ∧ tcD c (tcN c) = none ∧ PgU E vg nu N0 W c
/-- more code: tables as they were -/
theorem PgU_k {D : Nat → Option (Nat × Nat × List Nat × Nat)} {N : Nat} (h : PgU E vg nu N0 W c) (hN : tcN c ≤ N) (hD : ∀ q y, tcD c q = some y → D q = some y) (hn : ∀ q y, D q = some y → N0 ≤ q) : PgU E vg nu N0 W (mkc c C N D) := by
  obtain ⟨h1, h2, h3, h4⟩ := h
  refine ⟨hn, h2, fun i hi => ?_, h4⟩
  obtain ⟨a1, a2, rk, a3, a4, a5⟩ := h3 i hi
  exact ⟨a1, ⟨a2.1, a2.2.1, a2.2.2.1, by show tcE c (i + 1) ≤ N; omega⟩, rk, a3, a4, hD _ _ a5⟩
/-- a unit begins -/
def unB (c : Ct) (u np F : Nat) (isF : Prop) (ρ : Nat) : Ct := (tcC c, tcN c, updN (tcE c) u (tcN c), updN (tcP c) u np, updN (tcF c) u F, fun v => if v = u then isF else tcK c v, fun p => if p = tcN c then some (u, 0, (bsl + F) :: Vl F, ρ) else tcD c p)
theorem unB_t (h : PgT E vg nu N0 W c) (hn : nu < 40) (hN0 : N0 ≤ tcN c) (hp : np ≤ F ∧ np ≤ 8 ∧ F ≤ 60) (hρ : ρ ≤ RK) (hr : ¬ isF → ρ ≤ 2) (eP : ∀ i, i < nu → E1.2.2.2.2.2.2 i = E.2.2.2.2.2.2 i) (eN : E1.2.2.2.2.2.2 nu = np) (hx : ∀ x, x ∈ E1.1 → x ∈ E.1 ∨ (x.2.2.2 = nu ∧ (x.2.2.1 = 2 → isF) ∧ (x.2.2.1 = 3 → ¬ isF))) : TI noP noP (nu + 1) RK (unB c (nu + 1) np F isF ρ) ∧ PgU E1 vg (nu + 1) N0 W (unB c (nu + 1) np F isF ρ) ∧ tcD (unB c (nu + 1) np F isF ρ) (tcN c) = some (nu + 1, 0, (bsl + F) :: Vl F, ρ) := by
  obtain ⟨t, hD, h1, ⟨⟨h2, h2'⟩, k0, k41, f41⟩, h3, h4⟩ := h
  have dd : ∀ q y, tcD c q = some y → tcD (unB c (nu + 1) np F isF ρ) q = some y := fun q y e => by
    show (if q = tcN c then some (nu + 1, 0, (bsl + F) :: Vl F, ρ) else tcD c q) = some y
    rw [if_neg (fun z => by rw [z, hD] at e; cases e)]
    exact e
  have uo : ∀ v, ¬ v = nu + 1 → tcE (unB c (nu + 1) np F isF ρ) v = tcE c v ∧ tcP (unB c (nu + 1) np F isF ρ) v = tcP c v ∧ tcF (unB c (nu + 1) np F isF ρ) v = tcF c v ∧ tcK (unB c (nu + 1) np F isF ρ) v = tcK c v := fun v hv => ⟨if_neg hv, if_neg hv, if_neg hv, if_neg hv⟩
  have us : tcE (unB c (nu + 1) np F isF ρ) (nu + 1) = tcN c ∧ tcP (unB c (nu + 1) np F isF ρ) (nu + 1) = np ∧ tcF (unB c (nu + 1) np F isF ρ) (nu + 1) = F ∧ tcK (unB c (nu + 1) np F isF ρ) (nu + 1) = isF := ⟨if_pos rfl, if_pos rfl, if_pos rfl, if_pos rfl⟩
  refine ⟨?_, ⟨fun q y e => ?_, ⟨⟨?_, ?_⟩, ?_, ?_, ?_⟩, fun i hi => ?_, fun x hx' => ?_⟩, if_pos rfl⟩
  · refine TI_tb (y := some (nu + 1, 0, (bsl + F) :: Vl F, ρ)) (On := False) t (fun _ _ => rfl) rfl (fun u => Or.inl ⟨Nat.le_refl _, fun v hv => ?_, fun v hv => ?_, ⟨?_, fun _ => ?_⟩, fun pc x e => ⟨fun _ => e, fun o => o.elim⟩⟩) (by omega) (Or.inl hD) (fun q => rfl) (fun q => ⟨Or.inl, fun z => z.elim id (fun w => w.2.elim)⟩) (fun z => z.elim) (Nat.le_refl _)
    · have z := uo v (by omega)
      exact ⟨z.1, z.2.1, z.2.2.1⟩
    · show tcK (unB c (nu + 1) np F isF ρ) v ↔ _
      rw [(uo v (by omega)).2.2.2]
    · show _ ≤ tcF (unB c (nu + 1) np F isF ρ) 0
      rw [(uo 0 (by omega)).2.2.1]
      exact Nat.le_refl _
    · exact (uo 0 (by omega)).2.2.1
  · by_cases z : q = tcN c
    · omega
    · exact h1 q y (by rw [← e]; exact (if_neg z).symm)
  · rw [(uo 0 (by omega)).2.2.1]; exact h2
  · rw [(uo 0 (by omega)).2.2.1]; exact h2'
  · rw [(uo 0 (by omega)).2.2.2]; exact k0
  · rw [(uo 41 (by omega)).2.2.2]; exact k41
  · rw [(uo 41 (by omega)).2.2.1]; exact f41
  · by_cases z : i = nu
    · subst z
      rw [us.1, us.2.1, us.2.2.1, us.2.2.2]
      exact ⟨eN.symm, ⟨hp.1, hp.2.1, hp.2.2, Nat.le_refl _⟩, ρ, hρ, hr, if_pos rfl⟩
    · obtain ⟨a1, a2, rk, a3, a4, a5⟩ := h3 i (by omega)
      have y := uo (i + 1) (by omega)
      rw [y.1, y.2.1, y.2.2.1, y.2.2.2]
      exact ⟨a1.trans (eP i (by omega)).symm, a2, rk, a3, a4, dd _ _ a5⟩
  · rcases hx x hx' with z | ⟨z1, z2, z3⟩
    · obtain ⟨y1, y2⟩ := h4 x z
      constructor
      · intro e
        obtain ⟨w1, w2⟩ := y1 e
        exact ⟨by omega, by rw [(uo (x.2.2.2 + 1) (by omega)).2.2.2]; exact w2⟩
      · intro e
        obtain ⟨w1, w2⟩ := y2 e
        exact ⟨by omega, by rw [(uo (x.2.2.2 + 1) (by omega)).2.2.2]; exact w2⟩
    · rw [z1, us.2.2.2]
      exact ⟨fun e => ⟨by omega, z2 e⟩, fun e => ⟨by omega, z3 e⟩⟩
/-- what code of a unit may speak of -/
theorem CnC_P (h : PgU E vg nu N0 W c) (hn : nu ≤ 40) (hu : u ≤ nu ∨ u = 41) (hF : tcF c u = F) (hF2 : F ≤ 200) (hv : v ≤ F) : CnC noP u 0 (glD E vg) (VmD v) nu c F (Vl F) := by
  obtain ⟨h1, ⟨⟨h2, h2'⟩, k0, k41, f41⟩, h3, h4⟩ := h
  refine ⟨hu, by omega, by omega, ⟨h2, fun w np z => ?_⟩, by omega, fun i hi hb => ?_, fun i ⟨s, z1, z2⟩ => ?_, fun w w1 w2 wk => ?_⟩
  · obtain ⟨x, z1, z2, z3, z4⟩ := z
    obtain ⟨y1, y2⟩ := (h4 x z1).1 z2
    rw [z3, z4]
    exact ⟨by omega, by omega, y2, (h3 _ y1).1⟩
  · have := Vl_m F i hi
    exact absurd hb (by show ¬ 1000000 ≤ i; omega)
  · rw [z2]
    exact Vl_h F s (by omega)
  · obtain ⟨a1, a2, rk, a3, a4, a5⟩ := h3 (w - 1) (by omega)
    have ew : w - 1 + 1 = w := by omega
    rw [ew] at a1 a2 a5
    exact ⟨by omega, a2.1, by omega, fun z => z, rk, a3, a5⟩
theorem StC_P (h : PgU E vg nu N0 W c) (hn : nu ≤ 40) (hu : u ≤ nu) (hk : ¬ tcK c u) (hF : tcF c u = F) (hF2 : F ≤ 200) (hp : ¬ u = 0 → tcP c u ≤ F) : StC noP u (glD E vg) (PcD E) (VmD F) nu c F (Vl F) := by
  refine ⟨CnC_P h hn (Or.inl hu) hF hF2 (Nat.le_refl _), ⟨⟨hk, by omega⟩, by omega, hF2⟩, ⟨fun s hs _ hm => ?_, fun i hi => ?_⟩, fun u0 i hi => ⟨by have := hp u0; omega, i, by have := hp u0; omega, rfl⟩, fun w np z => ?_⟩
  · have := Vl_m F s hm
    omega
  · have := Vl_m F i hi
    omega
  · obtain ⟨h1, ⟨⟨h2, h2'⟩, k0, k41, f41⟩, h3, h4⟩ := h
    obtain ⟨x, z1, z2, z3, z4⟩ := z
    obtain ⟨y1, y2⟩ := (h4 x z1).2 z2
    obtain ⟨a1, a2, rk, a3, a4, a5⟩ := h3 _ y1
    rw [z3, z4]
    exact ⟨⟨by omega, by omega, by omega⟩, ⟨y2, by omega⟩, a1, ⟨a2.1, by omega⟩, fun z => z, rk, a4 y2, a5⟩
/-- the last instruction of a unit -/
theorem TI_la {op : Nat} (t : TI noP noP nu R c) (ho : op < 256) (hN : tcN c + 1 ≤ 36864) (hD : tcD c (tcN c) = some (u, d, r, rk)) (hu : u < 42) (hk : rk ≤ 72 * (RK + 1)) (hC : ∀ i, i < tcN c → C i = tcC c i) (e : C (tcN c) = em op 0) (ok : ∀ c', CtG noP u nu c c' → OKI c' (tcN c) u d r rk op 0) : TI noP noP nu RK (mkc c C (tcN c + 1) (fun q => if q = tcN c + 1 then none else tcD c q)) := by
  have t' := TI_RF t RK
  refine TI_em (ln := 1) (y := none) (Hn := False) (On := False) t' (Nat.le_refl _) hN hC rfl ⟨⟨rfl, rfl⟩, rfl, rfl⟩ (fun q => rfl) (fun q => ⟨Or.inl, fun z => z.elim id (fun w => w.2.elim)⟩) (fun z => z.elim) (fun q => ⟨Or.inl, fun z => z.elim id (fun w => w.2.elim)⟩) (fun z => z.elim) (fun _ x ex => ?_) (Nat.le_refl _)
  rw [hD] at ex
  cases ex
  have no1 : tcD c (tcN c + 1) = none := t.2.2.2.1 _ (by omega)
  have cg : ∀ c', CtG noP u nu (mkc c C (tcN c + 1) (fun q => if q = tcN c + 1 then none else tcD c q)) c' → CtG noP u nu c c' := fun c' a => ⟨by have := a.1; show tcN c ≤ _; have e2 : tcN (mkc c C (tcN c + 1) (fun q => if q = tcN c + 1 then none else tcD c q)) = tcN c + 1 := rfl; omega, a.2.1, a.2.2.1, a.2.2.2.1, fun pc x ex => a.2.2.2.2 pc x (by
    show (if pc = tcN c + 1 then none else tcD c pc) = some x
    rw [if_neg (fun z => by rw [z, no1] at ex; cases ex)]
    exact ex)⟩
  exact OKq_of (op := op) (x := 0) (by show (if tcN c = tcN c + 1 then none else tcD c (tcN c)) = _; rw [if_neg (by omega)]; exact hD) (fun z => z) hu (Nat.le_refl _) hk ho (Nat.le_refl _) (by show C (tcN c) &&& 255 = _; rw [e]; exact em_lo ho) (by show C (tcN c) >>> _ = _; rw [e]; exact em_hi ho Sm3_0) (fun c' a _ _ => ok c' (cg c' a))
/-- a func is laid -/
theorem Un_f (t : TI noP noP nu R c) (hR : RK ≤ R) (pg : PgU E vg nu N0 W c) (hn : nu ≤ 40) (hu : u ≤ nu) (hk : tcK c u) (hF : tcF c u = F) (hF2 : F ≤ 200) (hv : v ≤ F) (hD : tcD c (tcN c) = some (u, 0, (bsl + F) :: Vl F, RK)) (hN0 : N0 ≤ tcN c) (sg : Sgm u 0 (glD E vg) (VmD v) 1 cs) (hl : tcN c + cs.length + 1 ≤ 36864) (hC1 : ∀ i, i < tcN c → C i = tcC c i) (hC2 : ∀ i, i < cs.length → C (tcN c + i) = cs.getD i 0) (hC3 : C (tcN c + cs.length) = em 18 0) : ∃ D, PgT E vg nu N0 W (mkc c C (tcN c + cs.length + 1) D) := by
  have rk : RK = 40000 := rfl
  obtain ⟨D, t1, e1, f1⟩ := sg.2 noP noP nu RK c 0 [] F (Vl F) C (TI_RF t RK) (fun z => z) hD (fun e he => absurd he List.not_mem_nil) (CnC_P pg hn (Or.inl hu) hF hF2 hv) (by omega) (Nat.le_refl _) (by omega) (by omega) hC1 hC2
  have dd := dd_of t e1
  have hn' : ∀ q y, D q = some y → N0 ≤ q := fun q y e => by
    rcases Nat.lt_or_ge q (tcN c) with z | z
    · exact pg.1 q y (by rw [← e1 q (by omega)]; exact e)
    · omega
  have t2 := TI_la (op := 18) (C := C) t1 (by decide) (by show tcN c + cs.length + 1 ≤ 36864; omega) f1 (by omega) (by omega) (fun _ _ => rfl) hC3 (fun c' a => OKI_7 (by decide) ⟨fun z => absurd z (by decide), fun z => absurd z (by decide), fun z => absurd z (by decide), fun _ => ⟨by omega, (a.2.2.1 u (Or.inl hu)).2 hk⟩, fun z => absurd z (by decide), fun z => absurd z (by decide), fun z => absurd z (by decide), fun z => absurd z (by decide), fun z => absurd z (by decide), fun z => absurd z (by decide)⟩)
  refine ⟨fun q => if q = tcN c + cs.length + 1 then none else D q, t2, if_pos rfl, ?_⟩
  refine PgU_k pg (by omega) (fun q y e => ?_) (fun q y e => ?_)
  · have lt : q ≤ tcN c := by
      rcases Nat.lt_or_ge (tcN c) q with z | z
      · rw [t.2.2.2.1 q z] at e; cases e
      · exact z
    show (if q = tcN c + cs.length + 1 then none else D q) = some y
    rw [if_neg (by omega)]
    exact dd q y e
  · by_cases z : q = tcN c + cs.length + 1
    · have e' : (if q = tcN c + cs.length + 1 then none else D q) = some y := e
      rw [if_pos z] at e'
      cases e'
    · have e' : (if q = tcN c + cs.length + 1 then none else D q) = some y := e
      rw [if_neg z] at e'
      exact hn' q y e'
/-- the program itself is laid -/
theorem Un_0 (t : TI noP noP nu R c) (pg : PgU E vg nu N0 W c) (hn : nu ≤ 40) (hF : tcF c 0 = F) (hF2 : F ≤ 200) (hD : tcD c (tcN c) = some (0, 0, (bsl + F) :: Vl F, 2)) (hN0 : N0 ≤ tcN c) (sg : Stm 0 (glD E vg) (PcD E) (VmD F) F (tcN c) none Bd ns [] cs) (hB : Bd ≤ 900) (hns : ns ≤ 400) (hl : tcN c + cs.length + 1 ≤ 36864) (hC1 : ∀ i, i < tcN c → C i = tcC c i) (hC2 : ∀ i, i < cs.length → C (tcN c + i) = cs.getD i 0) (hC3 : C (tcN c + cs.length) = em 1 0) : ∃ D, PgT E vg nu N0 W (mkc c C (tcN c + cs.length + 1) D) ∧ D (tcN c) = some (0, 0, (bsl + F) :: Vl F, 2) := by
  have rk : RK = 40000 := rfl
  have k0 : ¬ tcK c 0 := pg.2.1.2.1
  obtain ⟨D, t1, e1, f1, _⟩ := sg.2 noP noP nu RK 2 c (Vl F) C (TI_RF t RK) rfl (fun q _ z => z) hD (StC_P pg hn (by omega) k0 hF hF2 (fun z => absurd rfl z)) (fun P0 e => by cases e) (by omega) (Nat.le_refl _) (by omega) (by omega) (by omega) hC1 (fun i hi _ => hC2 i hi)
  have t1' := TI_h t1 (H' := noP) (fun q => ⟨fun z => z.elim, fun z => z.elim id (fun ⟨h, y, _⟩ => absurd y List.not_mem_nil)⟩)
  have dd := dd_of t e1
  have t2 := TI_la (op := 1) (C := C) t1' (by decide) (by show tcN c + cs.length + 1 ≤ 36864; omega) f1 (by omega) (by omega) (fun _ _ => rfl) hC3 (fun c' a => OKI_1 (by decide) ⟨fun _ => ⟨⟨fun z => k0 ((a.2.2.1 0 (Or.inl (by omega))).1 z), by decide⟩, F, Vl F, rfl, rfl, hF2⟩, fun z => absurd z (by decide), fun z => absurd z (by decide), fun z => absurd z (by decide), fun z => absurd z (by decide)⟩)
  refine ⟨fun q => if q = tcN c + cs.length + 1 then none else D q, ⟨t2, if_pos rfl, PgU_k pg (by omega) (fun q y e => ?_) (fun q y e => ?_)⟩, ?_⟩
  · have lt : q ≤ tcN c := by
      rcases Nat.lt_or_ge (tcN c) q with z | z
      · rw [t.2.2.2.1 q z] at e; cases e
      · exact z
    show (if q = tcN c + cs.length + 1 then none else D q) = some y
    rw [if_neg (by omega)]
    exact dd q y e
  · by_cases z : q = tcN c + cs.length + 1
    · have e' : (if q = tcN c + cs.length + 1 then none else D q) = some y := e
      rw [if_pos z] at e'
      cases e'
    · have e' : (if q = tcN c + cs.length + 1 then none else D q) = some y := e
      rw [if_neg z] at e'
      rcases Nat.lt_or_ge q (tcN c) with z | z
      · exact pg.1 q y (by rw [← e1 q (by omega)]; exact e')
      · omega
  · show (if tcN c = tcN c + cs.length + 1 then none else D (tcN c)) = _
    rw [if_neg (by omega), e1 _ (Nat.le_refl _)]
    exact hD
/-- a proc is laid -/
theorem Un_p (t : TI noP noP nu R c) (pg : PgU E vg nu N0 W c) (hn : nu ≤ 40) (hu : 1 ≤ u ∧ u ≤ nu) (hk : ¬ tcK c u) (hF : tcF c u = F) (hF2 : F ≤ 60) (hD : tcD c (tcN c) = some (u, 0, (bsl + F) :: Vl F, 2)) (hN0 : N0 ≤ tcN c) (sg : Stm u (glD E vg) (PcD E) (VmD F) F (tcN c) none Bd ns [] cs) (hB : Bd ≤ 900) (hns : ns ≤ 400) (hl : tcN c + cs.length + 3 ≤ 36864) (hC1 : ∀ i, i < tcN c → C i = tcC c i) (hC2 : ∀ i, i < cs.length → C (tcN c + i) = cs.getD i 0) (hC3 : C (tcN c + cs.length) = em 32 0 ∧ C (tcN c + cs.length + 1) = -2147483648 ∧ C (tcN c + cs.length + 2) = em 20 0) : ∃ D, PgT E vg nu N0 W (mkc c C (tcN c + cs.length + 3) D) := by
  have rk : RK = 40000 := rfl
  have hP : tcP c u ≤ F := by
    have z := (pg.2.2.1 (u - 1) (by omega)).2.1.1
    rw [show u - 1 + 1 = u by omega] at z
    omega
  have stc := StC_P pg hn hu.2 hk hF (by omega) (fun _ => hP)
  obtain ⟨D, t1, e1, f1, _⟩ := sg.2 noP noP nu RK 2 c (Vl F) C (TI_RF t RK) rfl (fun q _ z => z) hD stc (fun P0 e => by cases e) (by omega) (Nat.le_refl _) (by omega) (by omega) (by omega) hC1 (fun i hi _ => hC2 i hi)
  have t1' := TI_RF (TI_h t1 (H' := noP) (fun q => ⟨fun z => z.elim, fun z => z.elim id (fun ⟨h, y, _⟩ => absurd y List.not_mem_nil)⟩)) RK
  have dd := dd_of t e1
  have b0 : ∀ d, bt d ((bsl + F) :: Vl F) = F := fun d => bt_0 d F (Vl F)
  have D0 : D (tcN c + cs.length + 1) = none ∧ D (tcN c + cs.length + 2) = none ∧ D (tcN c + cs.length + 3) = none := ⟨t1.2.2.2.1 _ (by show tcN c + cs.length < _; omega), t1.2.2.2.1 _ (by show tcN c + cs.length < _; omega), t1.2.2.2.1 _ (by show tcN c + cs.length < _; omega)⟩
  -- PUSH om
  have t2 : TI noP noP nu RK (mkc c C (tcN c + cs.length + 2) (fun q => if q = tcN c + cs.length + 2 then some (u, 1, (bsl + F) :: Vl F, 1) else D q)) := by
    refine TI_em (c := mkc c C (tcN c + cs.length) D) (ln := 2) (y := some (u, 1, (bsl + F) :: Vl F, 1)) (Hn := False) (On := False) t1' (by decide) (by show tcN c + cs.length + 2 ≤ 36864; omega) (fun _ _ => rfl) rfl ⟨⟨rfl, rfl⟩, rfl, rfl⟩ (fun q => rfl) (fun q => ⟨Or.inl, fun z => z.elim id (fun w => w.2.elim)⟩) (fun z => z.elim) (fun q => ⟨Or.inl, fun z => z.elim id (fun w => w.2.elim)⟩) (fun z => z.elim) (fun _ x ex => ?_) (Nat.le_refl _)
    rw [show tcD (mkc c C (tcN c + cs.length) D) (tcN (mkc c C (tcN c + cs.length) D)) = _ from f1] at ex
    cases ex
    refine OKq_of (op := 32) (x := 0) (by show (if tcN c + cs.length = tcN c + cs.length + 2 then _ else D (tcN c + cs.length)) = _; rw [if_neg (by omega)]; exact f1) (fun z => z) (by omega) (by show tcN c + cs.length + 1 ≤ tcN c + cs.length + 2; omega) (by omega) (by decide) (by decide) (by show C (tcN c + cs.length) &&& 255 = _; rw [hC3.1]; exact em_lo (by decide)) (by show C (tcN c + cs.length) >>> _ = _; rw [hC3.1]; exact em_hi (by decide) Sm3_0) (fun c' a hc _ => ?_)
    have n' : tcN c + cs.length + 2 ≤ tcN c' := a.1
    have c1' : tcC c' (tcN c + cs.length + 1) = -2147483648 := (hc (tcN c + cs.length + 1) (by show tcN c + cs.length ≤ _; omega) (by show _ < tcN c + cs.length + 2; omega)).trans hC3.2.1
    have nx : Nx c' (tcN c + cs.length + 2) u (0 + 1) ((bsl + F) :: Vl F) 2 := nx_of (rk := 1) (d' := 0 + 1) (r' := (bsl + F) :: Vl F) a (Or.inl hu.2) (if_pos rfl) (fun z => z) (Rsh_r _ _) (by rw [b0]; exact Nat.le_of_eq hF) (by rw [b0]; exact Nat.le_of_eq hF) (by decide)
    exact OKI_2 (by decide) ⟨fun _ => ⟨by show tcN c + cs.length + 1 < tcN c'; omega, by show LitG (tcC c' (tcN c + cs.length + 1)); rw [c1']; exact lit_om, nx⟩, fun z => absurd z (by decide), fun z => absurd z (by decide), fun z => absurd z (by decide), fun z => absurd z (by decide), fun z => absurd z (by decide), fun z => absurd z (by decide), fun z => absurd z (by decide), fun z => absurd z (by decide), fun z => absurd z (by decide), fun z => absurd z (by decide)⟩
  -- END_PROC
  have t3 := TI_la (op := 20) (C := C) (u := u) (d := 1) (r := (bsl + F) :: Vl F) (rk := 1) t2 (by decide) (by show tcN c + cs.length + 2 + 1 ≤ 36864; omega) (if_pos rfl) (by omega) (by omega) (fun _ _ => rfl) hC3.2.2 (fun c' a => OKI_7 (by decide) ⟨fun z => absurd z (by decide), fun z => absurd z (by decide), fun z => absurd z (by decide), fun z => absurd z (by decide), fun z => absurd z (by decide), fun _ => ⟨Nat.le_refl _, ⟨fun z => hk ((a.2.2.1 u (Or.inl hu.2)).1 z), by omega⟩, by omega, Nat.le_refl _, fun i hi => ?_⟩, fun z => absurd z (by decide), fun z => absurd z (by decide), fun z => absurd z (by decide), fun z => absurd z (by decide)⟩)
  · refine ⟨_, t3, if_pos rfl, PgU_k pg (by omega) (fun q y e => ?_) (fun q y e => ?_)⟩
    · have lt : q ≤ tcN c := by
        rcases Nat.lt_or_ge (tcN c) q with z | z
        · rw [t.2.2.2.1 q z] at e; cases e
        · exact z
      show (if q = tcN c + cs.length + 2 + 1 then none else if q = tcN c + cs.length + 2 then some (u, 1, (bsl + F) :: Vl F, 1) else D q) = some y
      rw [if_neg (by omega), if_neg (by omega)]
      exact dd q y e
    · rcases Nat.lt_or_ge q (tcN c) with z | z
      · have e' : (if q = tcN c + cs.length + 2 + 1 then none else if q = tcN c + cs.length + 2 then some (u, 1, (bsl + F) :: Vl F, 1) else D q) = some y := e
        rw [if_neg (by omega), if_neg (by omega)] at e'
        exact pg.1 q y (by rw [← e1 q (by omega)]; exact e')
      · omega
  · have ep : tcP c' u = tcP c u := ((a.2.1 u (Or.inl hu)).2.1)
    rw [ep] at hi
    refine ⟨by omega, ?_⟩
    exact sh_has [] (fun e he => absurd he List.not_mem_nil) (Vl_h F i (by omega))
end DYF
