section JnS528
/-! The class: units, typed. -/
section DYF
variable {c c' c1 c2 : Ct} {O H : Nat → Prop} {u nu R R' p d rk k w n m N N0 vg W F ρ np v Bd ns : Nat} {r ms : List Nat} {Vm : Nat → Prop} {Pc : Nat → Nat → Prop} {cs : List Int32} {gl : Nat × (Nat → Nat → Prop)} {C : Nat → Int32} {E E1 : En} {isF : Prop}
abbrev noP : Nat → Prop := fun _ => False
theorem TI_RF (t : TI noP H nu R c) (R' : Nat) : TI noP H nu R' c := by
  obtain ⟨t1, t2, th, t3, t4⟩ := t
  refine ⟨t1, t2, th, t3, fun pc x e hp => ?_⟩
  rcases t4 pc x e hp with z | ⟨l, Rp, z1, z2, z3, z4, z5⟩
  · exact Or.inl z
  · exact Or.inr ⟨l, R', z1, z2, Nat.le_refl _, z4, fun c' a b _ => z5 c' a b (fun _ _ o => o.elim)⟩
/-- units and names, as the code has them -/
def PgU (E : En) (vg nu N0 W : Nat) (c : Ct) : Prop := (∀ p x, tcD c p = some x → N0 ≤ p) ∧ ((vg ≤ tcF c 0 ∧ tcF c 0 = W) ∧ ¬ tcK c 0 ∧ ¬ tcK c 41 ∧ tcF c 41 = 0) ∧ (∀ i, i < nu → tcP c (i + 1) = E.2.2.2.2.2.2 i ∧ (tcP c (i + 1) ≤ tcF c (i + 1) ∧ tcP c (i + 1) ≤ 8 ∧ tcF c (i + 1) ≤ 60 ∧ tcE c (i + 1) ≤ tcN c) ∧ ∃ rk, rk ≤ RK ∧ (¬ tcK c (i + 1) → rk ≤ 2) ∧ tcD c (tcE c (i + 1)) = some (i + 1, 0, (bsl + tcF c (i + 1)) :: Vl (tcF c (i + 1)), rk)) ∧ ∀ x, x ∈ E.1 → (x.2.2.1 = 2 → x.2.2.2 < nu ∧ tcK c (x.2.2.2 + 1)) ∧ (x.2.2.1 = 3 → x.2.2.2 < nu ∧ ¬ tcK c (x.2.2.2 + 1))
def PgT (E : En) (vg nu N0 W : Nat) (c : Ct) : Prop := TI noP noP nu RK c ∧ tcD c (tcN c) = none ∧ PgU E vg nu N0 W c
/-- more code: tables as they were -/
theorem PgU_k {D : Nat → Option (Nat × Nat × List Nat × Nat)} {N : Nat} (h : PgU E vg nu N0 W c) (hN : tcN c ≤ N) (hD : ∀ q y, tcD c q = some y → D q = some y) (hn : ∀ q y, D q = some y → N0 ≤ q) : PgU E vg nu N0 W (mkc c C N D) := by
  obtain ⟨h1, h2, h3, h4⟩ := h
  refine ⟨hn, h2, fun i hi => ?_, h4⟩
  obtain ⟨a1, a2, rk, a3, a4, a5⟩ := h3 i hi
  exact ⟨a1, ⟨a2.1, a2.2.1, a2.2.2.1, by show tcE c (i + 1) ≤ N; omega⟩, rk, a3, a4, hD _ _ a5⟩
/-- a unit begins -/
def unB (c : Ct) (u np F : Nat) (isF : Prop) (ρ : Nat) : Ct := (tcC c, tcN c, updN (tcE c) u (tcN c), updN (tcP c) u np, updN (tcF c) u F, fun v => if v = u then isF else tcK c v, fun p => if p = tcN c then some (u, 0, (bsl + F) :: Vl F, ρ) else tcD c p)
theorem unB_t (h : PgT E vg nu N0 W c) (hn : nu < 40) (hN0 : N0 ≤ tcN c) (hp : np ≤ F ∧ np ≤ 8 ∧ F ≤ 60) (hρ : ρ ≤ RK) (hr : ¬ isF → ρ ≤ 2) (eP : ∀ i, i < nu → E1.2.2.2.2.2.2 i = E.2.2.2.2.2.2 i) (eN : E1.2.2.2.2.2.2 nu = np) (hx : ∀ x, x ∈ E1.1 → x ∈ E.1 ∨ (x.2.2.2 = nu ∧ (x.2.2.1 = 2 → isF) ∧ (x.2.2.1 = 3 → ¬ isF))) : TI noP noP (nu + 1) RK (unB c (nu + 1) np F isF ρ) ∧ PgU E1 vg (nu + 1) N0 W (unB c (nu + 1) np F isF ρ) ∧ tcD (unB c (nu + 1) np F isF ρ) (tcN c) = some (nu + 1, 0, (bsl + F) :: Vl F, ρ) := by
  obtain ⟨t, hD, h1, ⟨⟨h2, h2'⟩, k0, k41, f41⟩, h3, h4⟩ := h
  have dd : ∀ q y, tcD c q = some y → tcD (unB c (nu + 1) np F isF ρ) q = some y := fun q y e => by
    show (if q = tcN c then some (nu + 1, 0, (bsl + F) :: Vl F, ρ) else tcD c q) = some y
    rw [if_neg (fun z => by rw [z, hD] at e; cases e)]
    exact e
  have uo : ∀ v, ¬ v = nu + 1 → tcE (unB c (nu + 1) np F isF ρ) v = tcE c v ∧ tcP (unB c (nu + 1) np F isF ρ) v = tcP c v ∧ tcF (unB c (nu + 1) np F isF ρ) v = tcF c v ∧ tcK (unB c (nu + 1) np F isF ρ) v = tcK c v := fun v hv => ⟨if_neg hv, if_neg hv, if_neg hv, if_neg hv⟩
  have us : tcE (unB c (nu + 1) np F isF ρ) (nu + 1) = tcN c ∧ tcP (unB c (nu + 1) np F isF ρ) (nu + 1) = np ∧ tcF (unB c (nu + 1) np F isF ρ) (nu + 1) = F ∧ tcK (unB c (nu + 1) np F isF ρ) (nu + 1) = isF := ⟨if_pos rfl, if_pos rfl, if_pos rfl, if_pos rfl⟩
  refine ⟨?_, ⟨fun q y e => ?_, ⟨⟨?_, ?_⟩, ?_, ?_, ?_⟩, fun i hi => ?_, fun x hx' => ?_⟩, if_pos rfl⟩
  · refine TI_tb (y := some (nu + 1, 0, (bsl + F) :: Vl F, ρ)) (On := False) t (fun _ _ => rfl) rfl (fun u => Or.inl ⟨Nat.le_refl _, fun v hv => ?_, fun v hv => ?_, ⟨?_, fun _ => ?_⟩, fun pc x e => ⟨fun _ => e, fun o => o.elim⟩⟩) (by omega) (Or.inl hD) (fun q => rfl) (fun q => ⟨Or.inl, fun z => z.elim id (fun w => w.2.elim)⟩) (fun z => z.elim) (Nat.le_refl _)
    · have z := uo v (by omega)
      exact ⟨z.1, z.2.1, z.2.2.1⟩
    · show tcK (unB c (nu + 1) np F isF ρ) v ↔ _
      rw [(uo v (by omega)).2.2.2]
    · show _ ≤ tcF (unB c (nu + 1) np F isF ρ) 0
      rw [(uo 0 (by omega)).2.2.1]
      exact Nat.le_refl _
    · exact (uo 0 (by omega)).2.2.1
  · by_cases z : q = tcN c
    · omega
    · exact h1 q y (by rw [← e]; exact (if_neg z).symm)
  · rw [(uo 0 (by omega)).2.2.1]; exact h2
  · rw [(uo 0 (by omega)).2.2.1]; exact h2'
  · rw [(uo 0 (by omega)).2.2.2]; exact k0
  · rw [(uo 41 (by omega)).2.2.2]; exact k41
  · rw [(uo 41 (by omega)).2.2.1]; exact f41
  · by_cases z : i = nu
    · subst z
      rw [us.1, us.2.1, us.2.2.1, us.2.2.2]
      exact ⟨eN.symm, ⟨hp.1, hp.2.1, hp.2.2, Nat.le_refl _⟩, ρ, hρ, hr, if_pos rfl⟩
    · obtain ⟨a1, a2, rk, a3, a4, a5⟩ := h3 i (by omega)
      have y := uo (i + 1) (by omega)
      rw [y.1, y.2.1, y.2.2.1, y.2.2.2]
      exact ⟨a1.trans (eP i (by omega)).symm, a2, rk, a3, a4, dd _ _ a5⟩
  · rcases hx x hx' with z | ⟨z1, z2, z3⟩
    · obtain ⟨y1, y2⟩ := h4 x z
      constructor
      · intro e
        obtain ⟨w1, w2⟩ := y1 e
        exact ⟨by omega, by rw [(uo (x.2.2.2 + 1) (by omega)).2.2.2]; exact w2⟩
      · intro e
        obtain ⟨w1, w2⟩ := y2 e
        exact ⟨by omega, by rw [(uo (x.2.2.2 + 1) (by omega)).2.2.2]; exact w2⟩
    · rw [z1, us.2.2.2]
      exact ⟨fun e => ⟨by omega, z2 e⟩, fun e => ⟨by omega, z3 e⟩⟩
/-- what code of a unit may speak of -/
theorem CnC_P (h : PgU E vg nu N0 W c) (hn : nu ≤ 40) (hu : u ≤ nu ∨ u = 41) (hF : tcF c u = F) (hF2 : F ≤ 200) (hv : v ≤ F) : CnC noP u 0 (glD E vg) (VmD v) nu c F (Vl F) := by
  obtain ⟨h1, ⟨⟨h2, h2'⟩, k0, k41, f41⟩, h3, h4⟩ := h
  refine ⟨hu, by omega, by omega, ⟨h2, fun w np z => ?_⟩, by omega, fun i hi hb => ?_, fun i ⟨s, z1, z2⟩ => ?_, fun w w1 w2 wk => ?_⟩
  · obtain ⟨x, z1, z2, z3, z4⟩ := z
    obtain ⟨y1, y2⟩ := (h4 x z1).1 z2
    rw [z3, z4]
    exact ⟨by omega, by omega, y2, (h3 _ y1).1⟩
  · have := Vl_m F i hi
    exact absurd hb (by show ¬ 1000000 ≤ i; omega)
  · rw [z2]
    exact Vl_h F s (by omega)
  · obtain ⟨a1, a2, rk, a3, a4, a5⟩ := h3 (w - 1) (by omega)
    have ew : w - 1 + 1 = w := by omega
    rw [ew] at a1 a2 a5
    exact ⟨by omega, a2.1, by omega, fun z => z, rk, a3, a5⟩
theorem StC_P (h : PgU E vg nu N0 W c) (hn : nu ≤ 40) (hu : u ≤ nu) (hk : ¬ tcK c u) (hF : tcF c u = F) (hF2 : F ≤ 200) (hp : ¬ u = 0 → tcP c u ≤ F) : StC noP u (glD E vg) (PcD E) (VmD F) nu c F (Vl F) := by
  refine ⟨CnC_P h hn (Or.inl hu) hF hF2 (Nat.le_refl _), ⟨⟨hk, by omega⟩, by omega, hF2⟩, ⟨fun s hs _ hm => ?_, fun i hi => ?_⟩, fun u0 i hi => ⟨by have := hp u0; omega, i, by have := hp u0; omega, rfl⟩, fun w np z => ?_⟩
  · have := Vl_m F s hm
    omega
  · have := Vl_m F i hi
    omega
  · obtain ⟨h1, ⟨⟨h2, h2'⟩, k0, k41, f41⟩, h3, h4⟩ := h
    obtain ⟨x, z1, z2, z3, z4⟩ := z
    obtain ⟨y1, y2⟩ := (h4 x z1).2 z2
    obtain ⟨a1, a2, rk, a3, a4, a5⟩ := h3 _ y1
    rw [z3, z4]
    exact ⟨⟨by omega, by omega, by omega⟩, ⟨y2, by omega⟩, a1, ⟨a2.1, by omega⟩, fun z => z, rk, a4 y2, a5⟩
/-- the last instruction of a unit -/
theorem TI_la {op : Nat} (t : TI noP noP nu R c) (ho : op < 256) (hN : tcN c + 1 ≤ 36864) (hD : tcD c (tcN c) = some (u, d, r, rk)) (hu : u < 42) (hk : rk ≤ 72 * (RK + 1)) (hC : ∀ i, i < tcN c → C i = tcC c i) (e : C (tcN c) = em op 0) (ok : ∀ c', CtG noP u nu c c' → OKI c' (tcN c) u d r rk op 0) : TI noP noP nu RK (mkc c C (tcN c + 1) (fun q => if q = tcN c + 1 then none else tcD c q)) := by
  have t' := TI_RF t RK
  refine TI_em (ln := 1) (y := none) (Hn := False) (On := False) t' (Nat.le_refl _) hN hC rfl ⟨⟨rfl, rfl⟩, rfl, rfl⟩ (fun q => rfl) (fun q => ⟨Or.inl, fun z => z.elim id (fun w => w.2.elim)⟩) (fun z => z.elim) (fun q => ⟨Or.inl, fun z => z.elim id (fun w => w.2.elim)⟩) (fun z => z.elim) (fun _ x ex => ?_) (Nat.le_refl _)
  rw [hD] at ex
  cases ex
  have no1 : tcD c (tcN c + 1) = none := t.2.2.2.1 _ (by omega)
  have cg : ∀ c', CtG noP u nu (mkc c C (tcN c + 1) (fun q => if q = tcN c + 1 then none else tcD c q)) c' → CtG noP u nu c c' := fun c' a => ⟨by have := a.1; show tcN c ≤ _; have e2 : tcN (mkc c C (tcN c + 1) (fun q => if q = tcN c + 1 then none else tcD c q)) = tcN c + 1 := rfl; omega, a.2.1, a.2.2.1, a.2.2.2.1, fun pc x ex => a.2.2.2.2 pc x (by
    show (if pc = tcN c + 1 then none else tcD c pc) = some x
    rw [if_neg (fun z => by rw [z, no1] at ex; cases ex)]
    exact ex)⟩
  exact OKq_of (op := op) (x := 0) (by show (if tcN c = tcN c + 1 then none else tcD c (tcN c)) = _; rw [if_neg (by omega)]; exact hD) (fun z => z) hu (Nat.le_refl _) hk ho (Nat.le_refl _) (by show C (tcN c) &&& 255 = _; rw [e]; exact em_lo ho) (by show C (tcN c) >>> _ = _; rw [e]; exact em_hi ho Sm3_0) (fun c' a _ _ => ok c' (cg c' a))
/-- a func is laid -/
theorem Un_f (t : TI noP noP nu R c) (hR : RK ≤ R) (pg : PgU E vg nu N0 W c) (hn : nu ≤ 40) (hu : u ≤ nu) (hk : tcK c u) (hF : tcF c u = F) (hF2 : F ≤ 200) (hv : v ≤ F) (hD : tcD c (tcN c) = some (u, 0, (bsl + F) :: Vl F, RK)) (hN0 : N0 ≤ tcN c) (sg : Sgm u 0 (glD E vg) (VmD v) 1 cs) (hl : tcN c + cs.length + 1 ≤ 36864) (hC1 : ∀ i, i < tcN c → C i = tcC c i) (hC2 : ∀ i, i < cs.length → C (tcN c + i) = cs.getD i 0) (hC3 : C (tcN c + cs.length) = em 18 0) : ∃ D, PgT E vg nu N0 W (mkc c C (tcN c + cs.length + 1) D) := by
  have rk : RK = 40000 := rfl
  obtain ⟨D, t1, e1, f1⟩ := sg.2 noP noP nu RK c 0 [] F (Vl F) C (TI_RF t RK) (fun z => z) hD (fun e he => absurd he List.not_mem_nil) (CnC_P pg hn (Or.inl hu) hF hF2 hv) (by omega) (Nat.le_refl _) (by omega) (by omega) hC1 hC2
  have dd := dd_of t e1
  have hn' : ∀ q y, D q = some y → N0 ≤ q := fun q y e => by
    rcases Nat.lt_or_ge q (tcN c) with z | z
    · exact pg.1 q y (by rw [← e1 q (by omega)]; exact e)
    · omega
  have t2 := TI_la (op := 18) (C := C) t1 (by decide) (by show tcN c + cs.length + 1 ≤ 36864; omega) f1 (by omega) (by omega) (fun _ _ => rfl) hC3 (fun c' a => OKI_7 (by decide) ⟨fun z => absurd z (by decide), fun z => absurd z (by decide), fun z => absurd z (by decide), fun _ => ⟨by omega, (a.2.2.1 u (Or.inl hu)).2 hk⟩, fun z => absurd z (by decide), fun z => absurd z (by decide), fun z => absurd z (by decide), fun z => absurd z (by decide), fun z => absurd z (by decide), fun z => absurd z (by decide)⟩)
  refine ⟨fun q => if q = tcN c + cs.length + 1 then none else D q, t2, if_pos rfl, ?_⟩
  refine PgU_k pg (by omega) (fun q y e => ?_) (fun q y e => ?_)
  · have lt : q ≤ tcN c := by
      rcases Nat.lt_or_ge (tcN c) q with z | z
      · rw [t.2.2.2.1 q z] at e; cases e
      · exact z
    show (if q = tcN c + cs.length + 1 then none else D q) = some y
    rw [if_neg (by omega)]
    exact dd q y e
  · by_cases z : q = tcN c + cs.length + 1
    · have e' : (if q = tcN c + cs.length + 1 then none else D q) = some y := e
      rw [if_pos z] at e'
      cases e'
    · have e' : (if q = tcN c + cs.length + 1 then none else D q) = some y := e
      rw [if_neg z] at e'
      exact hn' q y e'
/-- the program itself is laid -/
theorem Un_0 (t : TI noP noP nu R c) (pg : PgU E vg nu N0 W c) (hn : nu ≤ 40) (hF : tcF c 0 = F) (hF2 : F ≤ 200) (hD : tcD c (tcN c) = some (0, 0, (bsl + F) :: Vl F, 2)) (hN0 : N0 ≤ tcN c) (sg : Stm 0 (glD E vg) (PcD E) (VmD F) F (tcN c) none Bd ns [] cs) (hB : Bd ≤ 900) (hns : ns ≤ 400) (hl : tcN c + cs.length + 1 ≤ 36864) (hC1 : ∀ i, i < tcN c → C i = tcC c i) (hC2 : ∀ i, i < cs.length → C (tcN c + i) = cs.getD i 0) (hC3 : C (tcN c + cs.length) = em 1 0) : ∃ D, PgT E vg nu N0 W (mkc c C (tcN c + cs.length + 1) D) ∧ D (tcN c) = some (0, 0, (bsl + F) :: Vl F, 2) := by
  have rk : RK = 40000 := rfl
  have k0 : ¬ tcK c 0 := pg.2.1.2.1
  obtain ⟨D, t1, e1, f1, _⟩ := sg.2 noP noP nu RK 2 c (Vl F) C (TI_RF t RK) rfl (fun q _ z => z) hD (StC_P pg hn (by omega) k0 hF hF2 (fun z => absurd rfl z)) (fun P0 e => by cases e) (by omega) (Nat.le_refl _) (by omega) (by omega) (by omega) hC1 (fun i hi _ => hC2 i hi)
  have t1' := TI_h t1 (H' := noP) (fun q => ⟨fun z => z.elim, fun z => z.elim id (fun ⟨h, y, _⟩ => absurd y List.not_mem_nil)⟩)
  have dd := dd_of t e1
  have t2 := TI_la (op := 1) (C := C) t1' (by decide) (by show tcN c + cs.length + 1 ≤ 36864; omega) f1 (by omega) (by omega) (fun _ _ => rfl) hC3 (fun c' a => OKI_1 (by decide) ⟨fun _ => ⟨⟨fun z => k0 ((a.2.2.1 0 (Or.inl (by omega))).1 z), by decide⟩, F, Vl F, rfl, rfl, hF2⟩, fun z => absurd z (by decide), fun z => absurd z (by decide), fun z => absurd z (by decide), fun z => absurd z (by decide)⟩)
  refine ⟨fun q => if q = tcN c + cs.length + 1 then none else D q, ⟨t2, if_pos rfl, PgU_k pg (by omega) (fun q y e => ?_) (fun q y e => ?_)⟩, ?_⟩
  · have lt : q ≤ tcN c := by
      rcases Nat.lt_or_ge (tcN c) q with z | z
      · rw [t.2.2.2.1 q z] at e; cases e
      · exact z
    show (if q = tcN c + cs.length + 1 then none else D q) = some y
    rw [if_neg (by omega)]
    exact dd q y e
  · by_cases z : q = tcN c + cs.length + 1
    · have e' : (if q = tcN c + cs.length + 1 then none else D q) = some y := e
      rw [if_pos z] at e'
      cases e'
    · have e' : (if q = tcN c + cs.length + 1 then none else D q) = some y := e
      rw [if_neg z] at e'
      rcases Nat.lt_or_ge q (tcN c) with z | z
      · exact pg.1 q y (by rw [← e1 q (by omega)]; exact e')
      · omega
  · show (if tcN c = tcN c + cs.length + 1 then none else D (tcN c)) = _
    rw [if_neg (by omega), e1 _ (Nat.le_refl _)]
    exact hD
/-- a proc is laid -/
theorem Un_p (t : TI noP noP nu R c) (pg : PgU E vg nu N0 W c) (hn : nu ≤ 40) (hu : 1 ≤ u ∧ u ≤ nu) (hk : ¬ tcK c u) (hF : tcF c u = F) (hF2 : F ≤ 60) (hD : tcD c (tcN c) = some (u, 0, (bsl + F) :: Vl F, 2)) (hN0 : N0 ≤ tcN c) (sg : Stm u (glD E vg) (PcD E) (VmD F) F (tcN c) none Bd ns [] cs) (hB : Bd ≤ 900) (hns : ns ≤ 400) (hl : tcN c + cs.length + 3 ≤ 36864) (hC1 : ∀ i, i < tcN c → C i = tcC c i) (hC2 : ∀ i, i < cs.length → C (tcN c + i) = cs.getD i 0) (hC3 : C (tcN c + cs.length) = em 32 0 ∧ C (tcN c + cs.length + 1) = -2147483648 ∧ C (tcN c + cs.length + 2) = em 20 0) : ∃ D, PgT E vg nu N0 W (mkc c C (tcN c + cs.length + 3) D) := by
  have rk : RK = 40000 := rfl
  have hP : tcP c u ≤ F := by
    have z := (pg.2.2.1 (u - 1) (by omega)).2.1.1
    rw [show u - 1 + 1 = u by omega] at z
    omega
  have stc := StC_P pg hn hu.2 hk hF (by omega) (fun _ => hP)
  obtain ⟨D, t1, e1, f1, _⟩ := sg.2 noP noP nu RK 2 c (Vl F) C (TI_RF t RK) rfl (fun q _ z => z) hD stc (fun P0 e => by cases e) (by omega) (Nat.le_refl _) (by omega) (by omega) (by omega) hC1 (fun i hi _ => hC2 i hi)
  have t1' := TI_RF (TI_h t1 (H' := noP) (fun q => ⟨fun z => z.elim, fun z => z.elim id (fun ⟨h, y, _⟩ => absurd y List.not_mem_nil)⟩)) RK
  have dd := dd_of t e1
  have b0 : ∀ d, bt d ((bsl + F) :: Vl F) = F := fun d => bt_0 d F (Vl F)
  have D0 : D (tcN c + cs.length + 1) = none ∧ D (tcN c + cs.length + 2) = none ∧ D (tcN c + cs.length + 3) = none := ⟨t1.2.2.2.1 _ (by show tcN c + cs.length < _; omega), t1.2.2.2.1 _ (by show tcN c + cs.length < _; omega), t1.2.2.2.1 _ (by show tcN c + cs.length < _; omega)⟩
  -- PUSH om
  have t2 : TI noP noP nu RK (mkc c C (tcN c + cs.length + 2) (fun q => if q = tcN c + cs.length + 2 then some (u, 1, (bsl + F) :: Vl F, 1) else D q)) := by
    refine TI_em (c := mkc c C (tcN c + cs.length) D) (ln := 2) (y := some (u, 1, (bsl + F) :: Vl F, 1)) (Hn := False) (On := False) t1' (by decide) (by show tcN c + cs.length + 2 ≤ 36864; omega) (fun _ _ => rfl) rfl ⟨⟨rfl, rfl⟩, rfl, rfl⟩ (fun q => rfl) (fun q => ⟨Or.inl, fun z => z.elim id (fun w => w.2.elim)⟩) (fun z => z.elim) (fun q => ⟨Or.inl, fun z => z.elim id (fun w => w.2.elim)⟩) (fun z => z.elim) (fun _ x ex => ?_) (Nat.le_refl _)
    rw [show tcD (mkc c C (tcN c + cs.length) D) (tcN (mkc c C (tcN c + cs.length) D)) = _ from f1] at ex
    cases ex
    refine OKq_of (op := 32) (x := 0) (by show (if tcN c + cs.length = tcN c + cs.length + 2 then _ else D (tcN c + cs.length)) = _; rw [if_neg (by omega)]; exact f1) (fun z => z) (by omega) (by show tcN c + cs.length + 1 ≤ tcN c + cs.length + 2; omega) (by omega) (by decide) (by decide) (by show C (tcN c + cs.length) &&& 255 = _; rw [hC3.1]; exact em_lo (by decide)) (by show C (tcN c + cs.length) >>> _ = _; rw [hC3.1]; exact em_hi (by decide) Sm3_0) (fun c' a hc _ => ?_)
    have n' : tcN c + cs.length + 2 ≤ tcN c' := a.1
    have c1' : tcC c' (tcN c + cs.length + 1) = -2147483648 := (hc (tcN c + cs.length + 1) (by show tcN c + cs.length ≤ _; omega) (by show _ < tcN c + cs.length + 2; omega)).trans hC3.2.1
    have nx : Nx c' (tcN c + cs.length + 2) u (0 + 1) ((bsl + F) :: Vl F) 2 := nx_of (rk := 1) (d' := 0 + 1) (r' := (bsl + F) :: Vl F) a (Or.inl hu.2) (if_pos rfl) (fun z => z) (Rsh_r _ _) (by rw [b0]; exact Nat.le_of_eq hF) (by rw [b0]; exact Nat.le_of_eq hF) (by decide)
    exact OKI_2 (by decide) ⟨fun _ => ⟨by show tcN c + cs.length + 1 < tcN c'; omega, by show LitG (tcC c' (tcN c + cs.length + 1)); rw [c1']; exact lit_om, nx⟩, fun z => absurd z (by decide), fun z => absurd z (by decide), fun z => absurd z (by decide), fun z => absurd z (by decide), fun z => absurd z (by decide), fun z => absurd z (by decide), fun z => absurd z (by decide), fun z => absurd z (by decide), fun z => absurd z (by decide), fun z => absurd z (by decide)⟩
  -- END_PROC
  have t3 := TI_la (op := 20) (C := C) (u := u) (d := 1) (r := (bsl + F) :: Vl F) (rk := 1) t2 (by decide) (by show tcN c + cs.length + 2 + 1 ≤ 36864; omega) (if_pos rfl) (by omega) (by omega) (fun _ _ => rfl) hC3.2.2 (fun c' a => OKI_7 (by decide) ⟨fun z => absurd z (by decide), fun z => absurd z (by decide), fun z => absurd z (by decide), fun z => absurd z (by decide), fun z => absurd z (by decide), fun _ => ⟨Nat.le_refl _, ⟨fun z => hk ((a.2.2.1 u (Or.inl hu.2)).1 z), by omega⟩, by omega, Nat.le_refl _, fun i hi => ?_⟩, fun z => absurd z (by decide), fun z => absurd z (by decide), fun z => absurd z (by decide), fun z => absurd z (by decide)⟩)
  · refine ⟨_, t3, if_pos rfl, PgU_k pg (by omega) (fun q y e => ?_) (fun q y e => ?_)⟩
    · have lt : q ≤ tcN c := by
        rcases Nat.lt_or_ge (tcN c) q with z | z
        · rw [t.2.2.2.1 q z] at e; cases e
        · exact z
      show (if q = tcN c + cs.length + 2 + 1 then none else if q = tcN c + cs.length + 2 then some (u, 1, (bsl + F) :: Vl F, 1) else D q) = some y
      rw [if_neg (by omega), if_neg (by omega)]
      exact dd q y e
    · rcases Nat.lt_or_ge q (tcN c) with z | z
      · have e' : (if q = tcN c + cs.length + 2 + 1 then none else if q = tcN c + cs.length + 2 then some (u, 1, (bsl + F) :: Vl F, 1) else D q) = some y := e
        rw [if_neg (by omega), if_neg (by omega)] at e'
        exact pg.1 q y (by rw [← e1 q (by omega)]; exact e')
      · omega
  · have ep : tcP c' u = tcP c u := ((a.2.1 u (Or.inl hu)).2.1)
    rw [ep] at hi
    refine ⟨by omega, ?_⟩
    exact sh_has [] (fun e he => absurd he List.not_mem_nil) (Vl_h F i (by omega))
end DYF
end JnS528
section JnS529
/-! The class: between declarations; a unit is closed; what is around in its body. -/
section DYG
variable {σ σ' σ0 σ2 τ τ' τ0 : CS} {L L2 : LV} {b pr : Bool} {T : Nat → Int32} {n q q' q0 u al o v v0 mk mk' p sz nc a1 a2 m f w st r0 vg vg' N N0 N1 M j W np v' : Nat} {y qh x : Int32} {l l' cs cs' : List Int32} {tb tb' A B : List Ent} {E E' E0 E1 : En} {bt : BT} {lo : Option Nat} {md : Nat → Nat} {MD : Nat → Nat → Nat} {c c' : Ct} {g : PRG}
theorem cl_unit (h : QS T n b u al (A ++ B) o q v mk 0 N σ) (e16 : σ.2.2.1 (pR16 b) 0 = nI v0) (h60 : v0 ≤ 60) (hL : L.1 1 = nI A.length) : Tm (fun k => y_X5_closeUnit k 0 L σ) (fun r => QS T n b 0 2 A o q v0 mk 0 N r.2 ∧ DK b N σ r.2 ∧ r.2.2 = σ.2 ∧ ∀ j, ¬ (j = 4003 ∨ j = 4004 ∨ j = fP b 11) → r.2.1 j = σ.1 j) := by
  refine Tm_suc (fun k => by rw [y_X5_closeUnit]) ?_
  refine Tm_oB h.2.2.2.2.1.1 ?_
  refine Tm_suc (fun k => by rw [y_X5_closeUnit]) ?_
  refine Tm_some ?_
  rw [hL]
  have fn := fP_ns b
  have f9 := fP_19 b
  obtain ⟨h1, xk⟩ := QS_tb h (TbQ_tk h.2.2.2.1)
  have z := QS_ww (σ' := uI (uI (uI σ (fP b 11) (nI A.length)) 4003 0) 4004 2) (u' := 0) (al' := 2) (v' := v0) (p' := 0) h1 (fun j hj => by rw [uI_o (by omega), uI_o (by omega)]) rfl (fun _ _ => rfl) rfl (by rw [uI_o (by decide), uI_s]; rfl) (by rw [uI_s]; rfl) e16 h60 (by rw [uI_o (by omega), uI_o (by omega)]; exact h1.2.2.2.2.2.2.2)
  exact ⟨z.1, DK_t (DK_X xk) z.2 (Nat.le_refl _), rfl, fun j hj => by rw [uI_o (by omega), uI_o (by omega), uI_o (by omega)]⟩
/-- rows of units, as the code has them -/
def UTb (b : Bool) (nc : Nat) (c : Ct) (MD : Nat → Nat → Nat) (σ : CS) : Prop := ∀ i, i < nc → (σ.2.2.1 (pR13 b) (i + 1) = nI (tcE c (i + 1)) ∧ σ.2.2.1 (pR14 b) (i + 1) = nI (tcP c (i + 1)) ∧ σ.2.2.1 (pR18 b) (i + 1) = nI (tcF c (i + 1))) ∧ ∀ j, j < tcP c (i + 1) → (σ.2.2.1 (pR15 b) (i + 1) >>> ((2 * nI j) &&& 31)) &&& 3 = nI (MD i j) ∧ MD i j ≤ 2
theorem UTb_u (h : UTb b nc c MD σ) (hk : UnK b u σ τ) (hu : nc < u) : UTb b nc c MD τ := fun i hi => by
  obtain ⟨⟨z1, z2⟩, ⟨z3, z4⟩, z5⟩ := hk (i + 1) (by omega)
  obtain ⟨⟨y1, y2, y3⟩, y4⟩ := h i hi
  refine ⟨⟨z1.trans y1, z2.trans y2, z5.trans y3⟩, fun j hj => ?_⟩
  rw [z3]
  exact y4 j hj
/-- between declarations -/
def DSt (T : Nat → Int32) (n : Nat) (b : Bool) (N0 W K : Nat) (g : PRG) (σ : CS) : Prop := ∃ (c : Ct) (N vg : Nat), (QS T n b 0 2 (tbE 0 g.2.1) 0 g.1 g.2.2.2.2.2.1 0 0 N σ ∧ ZF b 0 g.2.2.2.2.2.1 g.2.2.2.2.2.2.2.1.1 none 0 σ ∧ DE g.2.1 0 vg g.2.2.2.1 g.2.2.2.2.2.1) ∧ (g.2.1.2.2.2.2.1 = true ∧ g.2.1.2.2.2.2.2.1 = true ∧ σ.1 (fP b 12) = nI g.2.2.2.1 ∧ σ.2.2.1 (pR18 b) 41 = 0) ∧ UTb b g.2.2.2.1 c g.2.2.1 σ ∧ PgT g.2.1 vg g.2.2.2.1 N0 W c ∧ (tcN c = N ∧ N0 ≤ N ∧ ∀ i, N0 ≤ i → i < N → cdr b σ i = tcC c i) ∧ (2 * N + 7 * (n - g.1) + 110 ≤ K ∧ 1 ≤ g.2.2.2.2.2.2.1.1 ∧ g.2.2.2.2.2.2.2.1.1 ≤ 400 ∧ n ≤ 10240 ∧ K ≤ 73728)
/-- params of the funcs, as the rows have them -/
theorem PrR_P (pg : PgU E vg nc N0 W c) (h8 : nc ≤ 40) (ut : UTb b nc c MD σ) : PrR b (glD E vg) σ := fun w np z => by
  obtain ⟨x, z1, z2, z3, z4⟩ := z
  obtain ⟨y1, y2⟩ := (pg.2.2.2 x z1).1 z2
  obtain ⟨a1, a2, _⟩ := pg.2.2.1 _ y1
  obtain ⟨⟨u1, u2, u3⟩, u4⟩ := ut _ y1
  rw [z3, z4]
  exact ⟨by omega, by omega, by rw [u2, a1]⟩
theorem PcR_P (pg : PgU E vg nc N0 W c) (h8 : nc ≤ 40) (ut : UTb b nc c MD σ) : PcR b (PcD E) MD σ := fun w np z => by
  obtain ⟨x, z1, z2, z3, z4⟩ := z
  obtain ⟨y1, y2⟩ := (pg.2.2.2 x z1).2 z2
  obtain ⟨a1, a2, _⟩ := pg.2.2.1 _ y1
  obtain ⟨⟨u1, u2, u3⟩, u4⟩ := ut _ y1
  rw [z3, z4]
  refine ⟨⟨by omega, by omega, by omega⟩, by rw [u2, a1], fun i hi => ?_⟩
  rw [Nat.add_sub_cancel]
  exact u4 i (by omega)
/-- what is around an exp of a unit -/
theorem EvX_P (de : DE E u vg nc v) (pg : PgU E vg nc N0 W c) (ut : UTb b nc c MD σ) (hu : u < 42) (hal : al ≤ 2) (e1 : E.2.2.2.2.1 = true ↔ al = 2) (e2 : E.2.2.2.2.2.1 = true ↔ 1 ≤ al) : EvX E b u al (glD E vg) (VmD v) (tbE u E) σ := by
  obtain ⟨⟨d1, d2, d2'⟩, ⟨d3, d4, d5, d6⟩, d7, d8, d9⟩ := de
  exact ⟨NmR_E d7 d8 (fun x hx => (d9 x hx).2) d6 d5 d4 (fun e => by rw [(d2 e).2]; exact Nat.le_refl _) hu, PrR_P pg d5 ut, ⟨hal, hu⟩, e1, e2⟩
theorem StX_P (de : DE E u vg nc v) (pg : PgU E vg nc N0 W c) (ut : UTb b nc c MD σ) (hu : u < 42) (e1 : E.2.2.2.2.1 = true) (e2 : E.2.2.2.2.2.1 = true) (n10 : n ≤ 10240) : StX n E b u 2 (glD E vg) (VmD v) (PcD E) MD (tbE u E) σ := by
  refine ⟨EvX_P de pg ut hu (Nat.le_refl _) ⟨fun _ => rfl, fun _ => e1⟩ ⟨fun _ => by decide, fun _ => e2⟩, PcR_P pg de.2.1.2.2.1 ut, PcE_E, fun i hi => tbE_3 i hi (fun x hx => ?_), n10⟩
  have := (de.2.2.2.1 x hx).2
  omega
/-- in a unit: its params are told, its code begins -/
theorem Un_in (pm : PmS T n b nc al mk N st qh E1 vg σ0 M E np md q v τ) (pg : PgT E0 vg nc N0 W c) (ut : UTb b nc c MD σ0) (eN : tcN c = N) (hN0 : N0 ≤ N) (hn : nc < 40) (hv' : np ≤ v' ∧ v' ≤ 60) {isF : Prop} {ρ : Nat} (hρ : ρ ≤ RK) (hr : ¬ isF → ρ ≤ 2) (eP : ∀ i, i < nc → E1.2.2.2.2.2.2 i = E0.2.2.2.2.2.2 i) (hx : ∀ x, x ∈ E1.1 → x ∈ E0.1 ∨ (x.2.2.2 = nc ∧ (x.2.2.1 = 2 → isF) ∧ (x.2.2.1 = 3 → ¬ isF))) (E' : En) (eE : E'.1 = E.1 ∧ E'.2.2.2.2.2.2 = E.2.2.2.2.2.2) (hk : UnK b (nc + 1) τ τ') (e13 : τ'.2.2.1 (pR13 b) (nc + 1) = τ.2.2.1 (pR13 b) (nc + 1) ∧ τ'.2.2.1 (pR14 b) (nc + 1) = τ.2.2.1 (pR14 b) (nc + 1) ∧ τ'.2.2.1 (pR15 b) (nc + 1) = τ.2.2.1 (pR15 b) (nc + 1)) (e18 : τ'.2.2.1 (pR18 b) (nc + 1) = nI v') : (TI noP noP (nc + 1) RK (unB c (nc + 1) np v' isF ρ) ∧ PgU E' vg (nc + 1) N0 W (unB c (nc + 1) np v' isF ρ) ∧ tcD (unB c (nc + 1) np v' isF ρ) N = some (nc + 1, 0, (bsl + v') :: Vl v', ρ)) ∧ UTb b (nc + 1) (unB c (nc + 1) np v' isF ρ) (fun p => if p = nc then md else MD p) τ' := by
  obtain ⟨⟨h1, h2, h3⟩, ⟨h4, h4'⟩, ⟨h5, h6, h7, h8, h9⟩, h10, ⟨g1, ⟨g2, g3, g4⟩, g5, g6⟩⟩ := pm
  have z := unB_t (E1 := E') (np := np) (F := v') (isF := isF) (ρ := ρ) pg hn (by omega) ⟨hv'.1, h4', hv'.2⟩ hρ hr (fun i hi => by rw [eE.2, g5 i (by omega), eP i hi]) (by rw [eE.2]; exact g6) (fun x hx' => hx x (by rw [eE.1, g1] at hx'; exact hx'))
  rw [eN] at z
  refine ⟨z, fun i hi => ?_⟩
  by_cases e : i = nc
  · subst e
    have us : tcE (unB c (i + 1) np v' isF ρ) (i + 1) = tcN c ∧ tcP (unB c (i + 1) np v' isF ρ) (i + 1) = np ∧ tcF (unB c (i + 1) np v' isF ρ) (i + 1) = v' := ⟨if_pos rfl, if_pos rfl, if_pos rfl⟩
    rw [us.1, us.2.1, us.2.2]
    refine ⟨⟨by rw [e13.1, h7, eN], by rw [e13.2.1, h8], e18⟩, fun j hj => ?_⟩
    rw [e13.2.2, h9, show (fun p => if p = i then md else MD p) i = md from if_pos rfl, md_get (by omega) (MdN_l h10 h4')]
    have y := h10.2 j hj
    rw [y.1]
    exact ⟨rfl, y.2⟩
  · have uo : tcE (unB c (nc + 1) np v' isF ρ) (i + 1) = tcE c (i + 1) ∧ tcP (unB c (nc + 1) np v' isF ρ) (i + 1) = tcP c (i + 1) ∧ tcF (unB c (nc + 1) np v' isF ρ) (i + 1) = tcF c (i + 1) := ⟨if_neg (by omega), if_neg (by omega), if_neg (by omega)⟩
    rw [uo.1, uo.2.1, uo.2.2, show (fun p => if p = nc then md else MD p) i = MD i from if_neg e]
    have ut2 := UTb_u (UTb_u ut h6 (by omega)) hk (by omega)
    exact ut2 i (by omega)
end DYG
end JnS529
section JnS530
/-! The class: funcs are read. -/
section DYH
variable {σ σ' σ0 σ2 τ τ' τ0 : CS} {L L2 : LV} {b pr : Bool} {T : Nat → Int32} {n q q' q0 u al o v v0 v' mk mk' p sz nc a1 a2 m f w st r0 vg vg' N N0 N1 M j W np pc oq K : Nat} {y qh x : Int32} {l l' cs cs' : List Int32} {tb tb' A B : List Ent} {E E' E0 E1 : En} {bt bt0 : BT} {lo : Option Nat} {md : Nat → Nat} {MD : Nat → Nat → Nat} {c c' : Ct} {g : PRG} {s : SB} {F : Nat → Int32}
theorem c_emitQ (h : QS T n b u al tb o q v mk p sz τ) (hb : L.2.2.1 0 = b) (h1 : L.1 1 = nI oq) (hm : sz + 1 ≤ 36864) : Tm (fun k => f_X7_emit__P k 0 L τ) (QPo b u tb.length sz mk (Sum.inr ()) (fun _ _ τ' => QS T n b u al tb o q v mk p (sz + 1) τ' ∧ cdr b τ' sz = em oq (L.1 2)) τ 0 0) := by
  refine Tm_mono (c_emit h.2.1 hb hm) (fun r z => ?_)
  obtain ⟨z1, z2, z3⟩ := z
  obtain ⟨q1, x1⟩ := QS_cd h z3
  have e0 : r.1.1 = 0 := by rw [z1]
  refine ⟨fun t e => ⟨e0, q1, ?_⟩, fun _ e => (by cases e), fun _ => ⟨by have := z2.1; omega, by have := z2.2; omega⟩, fun e => absurd e0 e, x1⟩
  have y := z3.2.2.2 0 (by show 0 < 1; decide)
  rw [Nat.add_zero] at y
  rw [y, h1]
  rfl
/-- the code so far, and what was laid since -/
def cdX (N0 : Nat) (c : Ct) (b : Bool) (τ : CS) : Nat → Int32 := fun i => if i < N0 then tcC c i else cdr b τ i
theorem cdX_1 (hN0 : N0 ≤ N) (h0 : ∀ i, N0 ≤ i → i < N → cdr b σ0 i = tcC c i) (hk : DK b N σ0 τ) : ∀ i, i < N → cdX N0 c b τ i = tcC c i := fun i hi => by
  unfold cdX
  by_cases e : i < N0
  · rw [if_pos e]
  · rw [if_neg e, (hk.2.2.2.1 i hi).1, h0 i (by omega) hi]
theorem cdX_2 {i : Nat} (hi : N0 ≤ i) : cdX N0 c b τ i = cdr b τ i := if_neg (by omega)
theorem pb_pW {α β : Type} {t q : Nat} {k : Nat → Option (Fl α)} {K : α → Option (Fl β)} : pb (pW T n t q k) K = pW T n t q (fun q1 => pb (k q1) K) := by
  unfold pW pT
  by_cases h : tkK T n q = t
  · rw [if_pos h, if_pos h]
    by_cases h2 : tkK T n (tkN T n q) = 0
    · rw [if_pos h2, if_pos h2]; rfl
    · rw [if_neg h2, if_neg h2]
  · rw [if_neg h, if_neg h]; rfl
theorem pb_pb {α β γ : Type} {x : Option (Fl α)} {k : α → Option (Fl β)} {K : β → Option (Fl γ)} : pb (pb x k) K = pb x (fun a => pb (k a) K) := by
  cases x with
  | none => rfl
  | some y => cases y <;> rfl
/-- a unit is done: so it stands between declarations -/
theorem fn_end {q9 N9 pc9 : Nat} {bt9 : BT} {s9 : SB} {F9 : Nat → Int32} {MD9 : Nat → Nat → Nat} {ρ : CS} (q6 : QS T n b 0 2 (E.1.map gEn) 0 q9 v0 0 0 N9 ρ) (zf : ZF b 0 v0 s9.1 none 0 ρ) (de : DE E (nc + 1) vg (nc + 1) v) (hvg : vg = v0) (h60 : v0 ≤ 60) (e12 : ρ.1 (fP b 12) = nI (nc + 1)) (ut : UTb b (nc + 1) c MD9 ρ) (pgt : PgT E vg (nc + 1) N0 W c) (eN : tcN c = N9) (hN : N0 ≤ N9) (hc : ∀ i, N0 ≤ i → i < N9 → cdr b ρ i = tcC c i) (bd : 2 * N9 + 7 * (n - q9) + 110 ≤ K) (hK : K ≤ 73728) (h41 : ρ.2.2.1 (pR18 b) 41 = 0) (hb : 1 ≤ bt9.1) (hs : s9.1 ≤ 400) (n10 : n ≤ 10240) : DSt T n b N0 W K (q9, (E.1, [], [], 0, true, true, E.2.2.2.2.2.2), MD9, nc + 1, pc9, v0, bt9, s9, F9) ρ := by
  refine ⟨c, N9, vg, ⟨?_, zf, ⟨⟨rfl, fun _ => ⟨rfl, hvg⟩, fun e => absurd rfl e⟩, ⟨de.2.1.1, de.2.1.2.1, de.2.1.2.2.1, h60⟩, de.2.2.1, de.2.2.2.1, fun x hx => absurd hx List.not_mem_nil⟩⟩, ⟨rfl, rfl, e12, h41⟩, ut, pgt, ⟨eN, hN, hc⟩, ⟨bd, hb, hs, n10, hK⟩⟩
  show QS T n b 0 2 (E.1.map gEn ++ []) 0 q9 v0 0 0 N9 ρ
  rw [List.append_nil]
  exact q6
/-- behind the exp of a func: ; -/
theorem c_fn2 {X : Fl PRG} {r1 rv pc9 : Nat} {bt9 : BT} {F9 : Nat → Int32} {MD9 : Nat → Nat → Nat} (q3 : QS T n b (nc + 1) 0 (tbE (nc + 1) E) 0 r1 rv 0 0 (N + cs.length) τ) (zf3 : ZF b (nc + 1) v s.1 none 0 τ) (uk : UnK b (nc + 1) σ0 τ) (e12 : τ.1 (fP b 12) = nI (nc + 1)) (dy3 : Dy b σ0 N a1 a2 τ) (cd3 : ∀ i, i < cs.length → cdr b τ (N + i) = cs.getD i 0) (sg : Sgm (nc + 1) 0 (glD E vg) (VmD v) 1 cs) (ut3 : UTb b (nc + 1) c MD9 τ) (ti : TI noP noP (nc + 1) RK c) (pgu : PgU E vg (nc + 1) N0 W c) (hD : tcD c N = some (nc + 1, 0, (bsl + v) :: Vl v, RK)) (eN : tcN c = N) (eF : tcF c (nc + 1) = v) (eK : tcK c (nc + 1)) (hN0 : N0 ≤ N) (hcd : ∀ i, N0 ≤ i → i < N → cdr b σ0 i = tcC c i) (n40 : nc < 40) (de : DE E (nc + 1) vg (nc + 1) v) (h16 : σ0.2.2.1 (pR16 b) 0 = nI v0 ∧ v0 ≤ 60) (h18 : σ0.2.2.1 (pR18 b) 0 = nI v0) (hvg : vg = v0) (l1 : L.1 1 = nI E.1.length) (hs : s.1 ≤ 400) (hb1 : 1 ≤ bt9.1) (n10 : n ≤ 10240) (bd : 2 * (N + cs.length + 1) + 7 * (n - r1) + 103 ≤ K) (hK : K ≤ 73728) (h41 : σ0.2.2.1 (pR18 b) 41 = 0) (hG : pW T n 13 r1 (fun q2 => some (Sum.inr (q2, (E.1, [], [], 0, true, true, E.2.2.2.2.2.2), MD9, nc + 1, pc9, v0, bt9, s, F9))) = some X) : Tm (fun k => oP (sPp τ) (fun b4 => ox (f_X7_emit__P k 0 (lI (lI (lB lZ 0 b4) 1 18) 2 0) τ) (fun r5 => ox (f_X5_expect k 0 (lI lZ 1 17) r5.2.1) (fun r6 => op (y_X5_closeUnit k 0 (lI lZ 1 (L.1 1)) r6.2.1) (fun r7 => some ((0, 0), r7.2, (0, 0))))))) (DPo b N X (fun g _ τ' => DSt T n b N0 W K g τ') σ0 a1 a2) := by
  have r1n : r1 ≤ n := q3.1.2.2.2.1
  have tb4 := tkN_b T n r1 r1n
  have v60 : v ≤ 60 := de.2.1.2.2.2
  have lN : N + cs.length + 1 ≤ 36864 := by omega
  refine Tm_oP q3.2.2.2.2.1.1 ?_
  refine dt_callQ (z := Sum.inr ()) dy3 (Nat.le_add_right _ _) (c_emitQ (oq := 18) q3 rfl rfl lN) (Or.inr ⟨_, rfl, fun τ4 ret4 n7 n8 r4 xk4 dy4 => ?_⟩)
  obtain ⟨q4, cd4⟩ := r4
  have lN4 : N ≤ N + cs.length + 1 := by omega
  rcases pW_any hG with ⟨w5, w6⟩ | ⟨w5, w6⟩
  · rw [w6]
    exact dt_callQ (z := Sum.inl _) dy4 lN4 (c_expectQ (kk := 13) q4 (by decide) rfl (Or.inl ⟨w5, rfl⟩)) (Or.inl ⟨_, rfl, rfl⟩)
  have gq4 := tb4.2.2.2 (by rw [w5.1]; decide)
  have bd' : 2 * (N + cs.length + 1) + 7 * (n - tkN T n r1) + 110 ≤ K := by omega
  rw [(Option.some.inj w6).symm]
  refine dt_callQ (z := Sum.inr _) dy4 lN4 (c_expectQ (kk := 13) q4 (by decide) rfl (Or.inr ⟨w5, rfl⟩)) (Or.inr ⟨_, rfl, fun τ5 ret5 n9 n10' q5 xk5 dy5 => ?_⟩)
  have zk35 := ZK_t (ZK_of xk4) (ZK_of xk5) (Nat.le_refl _) (Nat.le_add_right _ _) (Nat.le_refl _)
  have uk5 : UnK b (nc + 1) σ0 τ5 := UnK_t uk (UnK_Z zk35)
  have ne0 : ¬ 0 = nc + 1 := by omega
  have e16 : τ5.2.2.1 (pR16 b) 0 = nI v0 := ((uk5 0 ne0).2.1.2).trans h16.1
  have e18 : τ5.2.2.1 (pR18 b) 0 = nI v0 := ((uk5 0 ne0).2.2).trans h18
  have q5' : QS T n b (nc + 1) 0 (E.1.map gEn ++ E.2.1.reverse.map (lEn (nc + 1))) 0 (tkN T n r1) rv 0 0 (N + cs.length + 1) τ5 := q5
  refine Tm_op (cl_unit (L := lI lZ 1 (L.1 1)) q5' e16 h16.2 (by rw [List.length_map]; exact l1)) (fun r6 z6 => ?_)
  obtain ⟨q6, dk6, e62, e61⟩ := z6
  have ph6 := Ph_s (σ := τ5) (σ' := r6.2) (by rw [e62])
  have dy6 : Dy b σ0 N (a1 + n7 + n9) (a2 + n8 + n10') r6.2 := ⟨DK_t dy5.1 dk6 lN4, by have := dy5.2.1; omega, by have := dy5.2.2; omega⟩
  refine Tm_some (Dfin dy6 ?_)
  have fn := fP_ns b
  have f9 := fP_19 b
  have j3 : ¬ (fP b 3 = 4003 ∨ fP b 3 = 4004 ∨ fP b 3 = fP b 11) := by cases b <;> decide
  have j12 : ¬ (fP b 12 = 4003 ∨ fP b 12 = 4004 ∨ fP b 12 = fP b 11) := by cases b <;> decide
  have j8 : ¬ (4008 = 4003 ∨ 4008 = 4004 ∨ 4008 = fP b 11) := by cases b <;> decide
  have j9 : ¬ (4009 = 4003 ∨ 4009 = 4004 ∨ 4009 = fP b 11) := by cases b <;> decide
  have zf5 := ZF_k (ZF_k zf3 xk4) xk5
  have zf6 : ZF b 0 v0 s.1 none 0 r6.2 := by
    refine ⟨by rw [e62]; exact e18, ⟨by rw [e61 _ j3]; exact zf5.2.1.1, hs⟩, by rw [e61 _ j8]; exact zf5.2.2.1, by rw [e61 _ j9]; exact zf5.2.2.2.1, ?_⟩
    show r6.2.2.2.2.2.1 42 = 64 ∨ r6.2.2.2.2.2.1 42 = 16384
    rw [e62]
    exact zf5.2.2.2.2
  have cdf : ∀ i, cdr b r6.2 i = cdr b τ5 i := fun i => by
    show r6.2.2.2.1 (r6.2.2.2.2.2.2.1.2.2.2.2 b |> pR0) i = _
    rw [e62]
  have cd5 : ∀ i, i < cs.length → cdr b r6.2 (N + i) = cs.getD i 0 := fun i hi => by
    have l4 : N + i < N + cs.length := by omega
    have l5 : N + i < N + cs.length + 1 := by omega
    rw [cdf, (xk5.2.2.2.2.2.1 (N + i) l5).1, (xk4.2.2.2.2.2.1 (N + i) l4).1]
    exact cd3 i hi
  have cd6 : cdr b r6.2 (N + cs.length) = em 18 0 := by
    rw [cdf, (xk5.2.2.2.2.2.1 (N + cs.length) (Nat.lt_succ_self _)).1]
    exact cd4
  have hC1 : ∀ i, i < N → cdX N0 c b r6.2 i = tcC c i := cdX_1 hN0 hcd dy6.1
  have lc : N0 ≤ N + cs.length := by omega
  obtain ⟨D, pgt⟩ := Un_f (C := cdX N0 c b r6.2) (cs := cs) (F := v) (v := v) ti (Nat.le_refl _) pgu n40 (Nat.le_refl _) eK eF (Nat.le_trans v60 (by decide)) (Nat.le_refl _) (by rw [eN]; exact hD) (by rw [eN]; exact hN0) sg (by rw [eN]; exact lN) (by rw [eN]; exact hC1) (by rw [eN]; exact fun i hi => by rw [cdX_2 (Nat.le_trans hN0 (Nat.le_add_right _ _))]; exact cd5 i hi) (by rw [eN, cdX_2 lc]; exact cd6)
  rw [eN] at pgt
  have ut6 : UTb b (nc + 1) (mkc c (cdX N0 c b r6.2) (N + cs.length + 1) D) MD9 r6.2 := fun i hi => by
    rw [e62]
    have e13 := ZK_13 zk35
    obtain ⟨⟨y1, y2, y3⟩, y4⟩ := ut3 i hi
    refine ⟨⟨by rw [e13.1]; exact y1, by rw [e13.2.1]; exact y2, ?_⟩, fun j hj => by rw [e13.2.2]; exact y4 j hj⟩
    by_cases ei : i = nc
    · rw [ei]
      show τ5.2.2.1 (pR18 b) (nc + 1) = nI (tcF c (nc + 1))
      rw [eF]
      exact zf5.1
    · rw [(UnK_Z zk35 (i + 1) (fun z => ei (Nat.succ.inj z))).2.2]
      exact y3
  exact fn_end (c := mkc c (cdX N0 c b r6.2) (N + cs.length + 1) D) q6 zf6 de hvg h16.2 (by rw [e61 _ j12, ZK_12 zk35, e12]) ut6 pgt rfl (Nat.le_trans lc (Nat.le_succ _)) (fun i h1 _ => (cdX_2 h1).symm) bd' hK (by rw [e62]; exact ((uk5 41 (by omega)).2.2).trans h41) hb1 hs n10
/-- behind the params of a func: ) = exp ; -/
theorem c_fn1 {X : Fl PRG} (pm : PmS T n b nc 0 0 N s.1 0 E1 vg σ0 M E np md q v τ) (k7 : tkK T n q = 7) (dy : Dy b σ0 N a1 a2 τ) (pg : PgT E0 vg nc N0 W c) (ut : UTb b nc c MD σ0) (eN : tcN c = N) (hN0 : N0 ≤ N) (hcd : ∀ i, N0 ≤ i → i < N → cdr b σ0 i = tcC c i) (hn : nc < 40) (h16 : σ0.2.2.1 (pR16 b) 0 = nI v0 ∧ v0 ≤ 60) (h18 : σ0.2.2.1 (pR18 b) 0 = nI v0) (hvg : vg = v0) (eP : ∀ i, i < nc → E1.2.2.2.2.2.2 i = E0.2.2.2.2.2.2 i) (hx : ∀ x, x ∈ E1.1 → x ∈ E0.1 ∨ (x.2.2.2 = nc ∧ (x.2.2.1 = 2 → True) ∧ (x.2.2.1 = 3 → ¬ True))) (f1 : E1.2.2.2.2.1 = false ∧ E1.2.2.2.2.2.1 = false) (l1 : L.1 1 = nI E1.1.length) (hs : s.1 ≤ 400) (hb1 : 1 ≤ bt.1) (n10 : n ≤ 10240) (bd : 2 * N + 7 * (n - q) + 110 ≤ K) (hK : K ≤ 73728) (h41 : σ0.2.2.1 (pR18 b) 41 = 0) (hG : pT T n q (fun q5 => pb (gBod T n false (fun p => if p = nc then md else MD p) E q5 v bt s) (fun z => some (Sum.inr (z.1, (E.1, [], [], 0, true, true, E.2.2.2.2.2.2), (fun p => if p = nc then md else MD p), nc + 1, pc, v0, bRes bt0.2.2.2.2 z.2.2.1, z.2.2.2, upF F nc z.2.1 z.2.2.1.2.2.2.2)))) = some X) : Tm (fun k => f_X5_function k 1 L τ) (DPo b N X (fun g _ τ' => DSt T n b N0 W K g τ') σ0 a1 a2) := by
  have pm0 := pm
  obtain ⟨⟨h1, h2, h3⟩, ⟨h4, h4'⟩, ⟨h5, h6, h7, h8, h9⟩, h10, ⟨g1, ⟨g2, g3, g4⟩, g5, g6⟩⟩ := pm
  have qn : q ≤ n := h1.1.2.2.2.1
  have tb1 := tkN_b T n q qn
  have gq := tb1.2.2.2 (by rw [k7]; decide)
  have v60 : v ≤ 60 := h3.2.1.2.2.2
  have tl : (tbE (nc + 1) E).length = E.1.length + v := by rw [tbE_l, h3.1.2.2 (by omega)]
  have el := h3.2.1
  refine Tm_suc (fun k => by rw [f_X5_function]) ?_
  rcases pT_any hG with ⟨w1, w2⟩ | ⟨w1, w2⟩
  · rw [w2]
    exact dt_callQ (z := Sum.inl _) dy (Nat.le_refl _) (c_closesQ (kk := 7) h1 (by decide) rfl (Or.inl ⟨fun e => e.2 w1, rfl⟩)) (Or.inl ⟨_, rfl, by rw [wF_y k7]⟩)
  refine dt_callQ (z := Sum.inr _) dy (Nat.le_refl _) (c_closesQ (kk := 7) h1 (by decide) rfl (Or.inr ⟨⟨k7, w1⟩, rfl⟩)) (Or.inr ⟨_, rfl, fun τ1 ret1 n1 n2 q1 xk1 dy1 => ?_⟩)
  have tb2 := tkN_b T n (tkN T n q) tb1.2.1
  have w2' : pW T n 17 (tkN T n q) (fun q1 => pb (G T n (fu n) 0 E 0 q1 v 0 0 0 0 bt) (fun t => pW T n 13 t.1 (fun q2 => some (Sum.inr ((q2, (E.1, [], [], 0, true, true, E.2.2.2.2.2.2), (fun p => if p = nc then md else MD p), nc + 1, pc, v0, bRes bt0.2.2.2.2 t.2.2.2.2.1, s, upF F nc (nI t.2.2.2.1, t.2.1) t.2.2.2.2.1.2.2.2.2) : PRG))))) = some X := by
    rw [← w2]
    unfold gBod
    rw [if_neg (by decide), pb_pW]
    refine congrArg (pW T n 17 (tkN T n q)) (funext fun q1 => ?_)
    rw [pb_pb]
    refine congrArg (pb _) (funext fun t => ?_)
    rw [pb_pW]
    rfl
  rcases pW_any w2' with ⟨w3, w4⟩ | ⟨w3, w4⟩
  · rw [w4]
    exact dt_callQ (z := Sum.inl _) dy1 (Nat.le_refl _) (c_expectQ (kk := 17) q1 (by decide) rfl (Or.inl ⟨w3, rfl⟩)) (Or.inl ⟨_, rfl, rfl⟩)
  refine dt_callQ (z := Sum.inr _) dy1 (Nat.le_refl _) (c_expectQ (kk := 17) q1 (by decide) rfl (Or.inr ⟨w3, rfl⟩)) (Or.inr ⟨_, rfl, fun τ2 ret2 n3 n4 q2 xk2 dy2 => ?_⟩)
  have gq2 := tb2.2.2.2 (by rw [w3.1]; decide)
  have tb3 := tkN_b T n (tkN T n (tkN T n q)) tb2.2.1
  have zk2 := ZK_t (ZK_of xk1) (ZK_of xk2) (Nat.le_refl _) (Nat.le_refl _) (Nat.le_refl _)
  -- the code is typed from here
  have zf2 := ZF_k (ZF_k h2 xk1) xk2
  obtain ⟨⟨ti, pgu, hD⟩, ut2⟩ := Un_in (isF := True) (ρ := RK) (v' := v) (τ' := τ2) pm0 pg ut eN hN0 hn ⟨by omega, v60⟩ (Nat.le_refl _) (fun e => absurd trivial e) eP hx E ⟨rfl, rfl⟩ (UnK_Z zk2) ⟨by rw [(ZK_13 zk2).1], by rw [(ZK_13 zk2).2.1], by rw [(ZK_13 zk2).2.2]⟩ zf2.1
  have ev : EvX E b (nc + 1) 0 (glD E vg) (VmD v) (tbE (nc + 1) E) τ2 := EvX_P h3 pgu ut2 (by omega) (by omega) (by rw [g3, f1.1]; exact ⟨fun e => (by cases e), fun e => absurd e (by decide)⟩) (by rw [g4, f1.2]; exact ⟨fun e => (by cases e), fun e => absurd e (by omega)⟩)
  have bdx : BdX n 0 (tkN T n (tkN T n q)) v 0 0 N (tbE (nc + 1) E).length := ⟨n10, by omega, by omega, by omega, by omega⟩
  have hGx : ∃ z, G T n (fu n) 0 E 0 (tkN T n (tkN T n q)) v 0 0 0 0 bt = some z := by
    rcases pb_any w4 with ⟨yf, z, _⟩ | ⟨t, z, _⟩
    · exact ⟨_, z⟩
    · exact ⟨_, z⟩
  obtain ⟨z, hz⟩ := hGx
  rw [hz] at w4
  cases z with
  | inl yf =>
    rw [(Option.some.inj w4).symm]
    exact dt_callQ (z := Sum.inl _) dy2 (Nat.le_refl _) (px_all (fu n) 400 0 0 (Or.inl ⟨rfl, rfl⟩) E 0 _ v bt (Sum.inl yf) hz (glD E vg) (VmD v) _ 0 0 N τ2 _ q2 ev bdx rfl (by omega)) (Or.inl ⟨_, rfl, rfl⟩)
  | inr r =>
    have mo := g_mo0 tb2.2.1 v60 hb1 hz
    refine dt_callQ (z := Sum.inr r) dy2 (Nat.le_refl _) (px_all (fu n) 400 0 0 (Or.inl ⟨rfl, rfl⟩) E 0 _ v bt (Sum.inr r) hz (glD E vg) (VmD v) _ 0 0 N τ2 _ q2 ev bdx rfl (by omega)) (Or.inr ⟨_, rfl, fun τ3 ret3 n5 n6 r3 xk3 dy3 => ?_⟩)
    obtain ⟨cs, q3, cd3, sg, ln, lt, lv, _⟩ := r3
    have zk3 := ZK_of xk3
    have zk23 := ZK_t zk2 zk3 (Nat.le_refl _) (Nat.le_refl _) (Nat.le_refl _)
    have zf3 := ZF_k zf2 xk3
    have eFu : tcF (unB c (nc + 1) np v True RK) (nc + 1) = v := if_pos rfl
    have eKu : tcK (unB c (nc + 1) np v True RK) (nc + 1) := by
      show (if nc + 1 = nc + 1 then True else _)
      rw [if_pos rfl]
      trivial
    have ut3 : UTb b (nc + 1) (unB c (nc + 1) np v True RK) (fun p => if p = nc then md else MD p) τ3 := fun i hi => by
      have e13 := ZK_13 zk3
      obtain ⟨⟨y1, y2, y3⟩, y4⟩ := ut2 i hi
      refine ⟨⟨by rw [e13.1]; exact y1, by rw [e13.2.1]; exact y2, ?_⟩, fun j hj => by rw [e13.2.2]; exact y4 j hj⟩
      by_cases ei : i = nc
      · rw [ei, eFu]
        exact zf3.1
      · rw [(UnK_Z zk3 (i + 1) (fun z => ei (Nat.succ.inj z))).2.2]
        exact y3
    exact c_fn2 (L := L) (cs := cs) (c := unB c (nc + 1) np v True RK) q3 zf3 (UnK_t h6 (UnK_Z zk23)) (by rw [ZK_12 zk23, h5]) dy3 cd3 sg ut3 ti pgu hD eN eFu eKu hN0 hcd hn h3 h16 h18 hvg (by rw [l1, g1]) hs (by show 1 ≤ r.2.2.2.2.1.1; omega) n10 (by omega) hK h41 w4
end DYH
end JnS530
section JnS531
/-! The class: the params of a func; funcs are read. -/
section DYI
variable {σ σ' σ0 σ2 τ τ' τ0 : CS} {L L2 : LV} {b pr : Bool} {T : Nat → Int32} {n q q' q0 u al o v v0 v' mk mk' p sz nc a1 a2 m f w st r0 vg vg' N N0 N1 M j W np pc op b0 K : Nat} {y qh x : Int32} {l l' cs cs' : List Int32} {tb tb' A B : List Ent} {E E' E0 E1 : En} {bt bt0 : BT} {lo : Option Nat} {md : Nat → Nat} {MD : Nat → Nat → Nat} {c c' : Ct} {g : PRG} {s : SB} {F : Nat → Int32} {X : Fl PRG} {S : PRG → Int32 → CS → Prop}
theorem DK_w (h : DK b N σ σ') (hl : N0 ≤ N) : DK b N0 σ σ' := ⟨h.1, h.2.1, h.2.2.1, fun i hi => h.2.2.2.1 i (by omega), ⟨by have := h.2.2.2.2.1.1; omega, h.2.2.2.2.1.2⟩, h.2.2.2.2.2⟩
theorem DPo_w {α : Type} {x : Fl α} {S : α → Int32 → CS → Prop} {r : RS} (h : DPo b N x S σ a1 a2 r) (hl : N0 ≤ N) : DPo b N0 x S σ a1 a2 r := ⟨h.1, h.2.1, h.2.2.1, h.2.2.2.1, DK_w h.2.2.2.2 hl⟩
/-- what is done behind the params, by the method's block 1 -/
def PmK (T : Nat → Int32) (n : Nat) (b : Bool) (nc al N st : Nat) (E1 : En) (vg q0 b0 : Nat) (σ0 : CS) (X : Fl PRG) (S : PRG → Int32 → CS → Prop) (fn : Nat → Nat → LV → CS → Option RS) (x : Fl PV6) : Prop := (∀ ye, x = Sum.inl ye → X = Sum.inl ye) ∧ ∀ a : PV6, x = Sum.inr a → ∀ (M a1 a2 : Nat) (L : LV) (τ : CS), Dy b σ0 N a1 a2 τ → PmS T n b nc al 0 N st 0 E1 vg σ0 M a.2.1 a.2.2.1 a.2.2.2.1 a.1 a.2.2.2.2.1 τ → tkK T n a.1 = 7 → L.1 1 = nI E1.1.length → q0 ≤ a.1 → b0 ≤ a.2.2.2.2.2.1 → Tm (fun k => fn k 1 L τ) (DPo b N X S σ0 a1 a2)
/-- a func's param -/
theorem fn_pm (hu : nc + 1 < 41) (ih : ∀ (E : En) (c : Nat) (md : Nat → Nat) (q v : Nat) (bt : BT) (x : Fl PV6), GPm T n false nc f E c md q v bt = some x → 1 ≤ c → PmK T n b nc al N st E1 vg q0 b0 σ0 X S f_X5_function x → ∀ (M a1 a2 : Nat) (L : LV) (τ : CS), Dy b σ0 N a1 a2 τ → PmS T n b nc al 0 N st 0 E1 vg σ0 M E c md q v τ → L.1 1 = nI E1.1.length → uN (L.1 2) + 1 ≤ c → q0 ≤ q → b0 ≤ bt.1 → Tm (fun k => f_X5_function k 2 L τ) (DPo b N X S σ0 a1 a2)) {c : Nat} {x : Fl PV6} (hG : gPI T n false E c q v bt (fun m r => GPm T n false nc f (sP r.2.1 nc (c + 1)) (c + 1) (updN md c m) r.1 r.2.2.1 r.2.2.2) = some x) (K : PmK T n b nc al N st E1 vg q0 b0 σ0 X S f_X5_function x) (dy : Dy b σ0 N a1 a2 τ) (pm : PmS T n b nc al 0 N st 0 E1 vg σ0 M E c md q v τ) (hq : q0 ≤ q) (hb : b0 ≤ bt.1) (l1 : y = nI E1.1.length) (l2 : L2.1 1 = nI E1.1.length) (l3 : uN (L2.1 2) ≤ c) : Tm (fun k => ox (f_X5_parameter k 0 (lI lZ 1 y) τ) (fun r => f_X5_function k 2 L2 r.2.1)) (DPo b N X S σ0 a1 a2) := by
  unfold gPI at hG
  rw [if_neg (fun z => by cases z.1)] at hG
  unfold gPJ at hG
  have qn : q ≤ n := pm.1.1.1.2.2.2.1
  have tb1 := tkN_b T n q qn
  by_cases c8 : c = 8
  · rw [if_pos c8] at hG
    rw [K.1 _ (Option.some.inj hG).symm]
    exact dt_callD (z := Sum.inl _) dy (Nat.le_refl _) (c_paramF (L := lI lZ 1 y) pm hu l1 (Or.inl ⟨_, PaF_8 c8, rfl⟩)) (Or.inl ⟨_, rfl, rfl⟩)
  rw [if_neg c8] at hG
  rcases gl_any pm.1.2.2 (by omega) (tk_ok pm.1.1.1) hG with ⟨yf, w1, w2⟩ | ⟨w1, E', b', w2, w3, w4, w5, w6⟩
  · rw [K.1 _ w2]
    exact dt_callD (z := Sum.inl _) dy (Nat.le_refl _) (c_paramF (L := lI lZ 1 y) pm hu l1 (Or.inl ⟨yf, PaF_of c8 w1, rfl⟩)) (Or.inl ⟨_, rfl, rfl⟩)
  · refine dt_callD (z := Sum.inr ()) dy (Nat.le_refl _) (c_paramF (L := lI lZ 1 y) pm hu l1 (Or.inr ⟨⟨w1, c8⟩, rfl⟩)) (Or.inr ⟨_, rfl, fun τ1 ret1 n1 n2 r1 dk1 dy1 => ?_⟩)
    exact ih _ (c + 1) _ _ (v + 1) b' x w6 (by omega) K M _ _ L2 τ1 dy1 (PmS_s pm c8 r1 w2 w3 w4) l2 (by omega) (by omega) (by omega)
/-- a func's params behind the first -/
theorem fn_lp (hu : nc + 1 < 41) : ∀ (f : Nat) (E : En) (c : Nat) (md : Nat → Nat) (q v : Nat) (bt : BT) (x : Fl PV6), GPm T n false nc f E c md q v bt = some x → 1 ≤ c → PmK T n b nc al N st E1 vg q0 b0 σ0 X S f_X5_function x → ∀ (M a1 a2 : Nat) (L : LV) (τ : CS), Dy b σ0 N a1 a2 τ → PmS T n b nc al 0 N st 0 E1 vg σ0 M E c md q v τ → L.1 1 = nI E1.1.length → uN (L.1 2) + 1 ≤ c → q0 ≤ q → b0 ≤ bt.1 → Tm (fun k => f_X5_function k 2 L τ) (DPo b N X S σ0 a1 a2)
  | 0, E, c, md, q, v, bt, x, hG => by cases hG
  | f + 1, E, c, md, q, v, bt, x, hG => by
    intro hc K M a1 a2 L τ dy pm l1 l2 hq hb
    rw [GPm, if_neg (by omega)] at hG
    have c8 := pm.2.1.2
    have h1 := pm.1.1
    have qn : q ≤ n := h1.1.2.2.2.1
    have tb1 := tkN_b T n q qn
    refine Tm_suc (fun k => by rw [f_X5_function]) ?_
    refine Tm_no (by rw [u_ltn (by decide) (by omega)]; show ¬ 8 < uN (L.1 2); omega) ?_
    by_cases k12 : tkK T n q = 12
    · rw [if_pos k12] at hG
      refine Tm_yes ((lx_k (kk := 12) h1 (by decide)).2 k12) ?_
      rcases pT_any hG with ⟨z1, z2⟩ | ⟨z1, z2⟩
      · rw [K.1 _ z2]
        exact dt_callQ (z := Sum.inl _) dy (Nat.le_refl _) (c_advX h1 (Or.inl ⟨z1, rfl⟩)) (Or.inl ⟨_, rfl, rfl⟩)
      · refine dt_callQ (z := Sum.inr _) dy (Nat.le_refl _) (c_advX h1 (Or.inr ⟨z1, rfl⟩)) (Or.inr ⟨_, rfl, fun τ1 ret1 n1 n2 q1 xk1 dy1 => ?_⟩)
        have pm1 : PmS T n b nc al 0 N st 0 E1 vg σ0 M E c md (tkN T n q) v τ1 := by
          obtain ⟨⟨h1, h2, h3⟩, ⟨h4, h4'⟩, ⟨h5, h6, h7, h8, h9⟩, h10, h11⟩ := pm
          have e13 := ZK_13 (ZK_of xk1)
          exact ⟨⟨q1, ZF_k h2 xk1, h3⟩, ⟨h4, h4'⟩, ⟨(ZK_12 (ZK_of xk1)).trans h5, UnK_t h6 (UnK_Z (ZK_of xk1)), by rw [e13.1]; exact h7, by rw [e13.2.1]; exact h8, by rw [e13.2.2]; exact h9⟩, h10, h11⟩
        have l2' : uN ((lI L 2 (L.1 2 + 1)).1 2) ≤ c := by
          show uN (L.1 2 + 1) ≤ c
          rw [u_inc (by omega)]
          omega
        exact fn_pm hu (fn_lp hu f) z2 K dy1 pm1 (by omega) hb l1 l1 l2'
    · rw [if_neg k12] at hG
      refine Tm_no (fun z => k12 ((lx_k (kk := 12) h1 (by decide)).1 z)) ?_
      by_cases k7 : tkK T n q = 7
      · rw [if_pos k7] at hG
        exact K.2 _ (Option.some.inj hG).symm M a1 a2 L τ dy pm k7 l1 hq hb
      · rw [if_neg k7] at hG
        rw [K.1 _ (Option.some.inj hG).symm]
        refine Tm_suc (fun k => by rw [f_X5_function]) ?_
        exact dt_callQ (z := Sum.inl _) dy (Nat.le_refl _) (c_closesQ (kk := 7) h1 (by decide) rfl (Or.inl ⟨fun e => k7 e.1, rfl⟩)) (Or.inl ⟨_, rfl, by rw [wF_n k7]⟩)
/-- the head, as the reference has it -/
theorem gCal_i {c : Nat} (h : gCal T n pr E MD c pc v bt s F q = some X) : (¬ TUC T n E c q ∧ X = Sum.inl (tuF T n E c q)) ∨ (TUC T n E c q ∧ pb (GPm T n pr c (fu n) (eC1 T n pr E c (tkN T n q) bt) 0 (fun _ => 0) (tkN T n (tkN T n (tkN T n q))) 0 (bKeep bt T (tkN T n q) (tkE T n (tkN T n q) - tkN T n q))) (fun a => pT T n a.1 (fun q5 => pb (gBod T n pr (fun p => if p = c then a.2.2.2.1 else MD p) a.2.1 q5 a.2.2.2.2.1 a.2.2.2.2.2 s) (fun z => some (Sum.inr (z.1, (a.2.1.1, [], [], 0, true, true, a.2.1.2.2.2.2.2.2), (fun p => if p = c then a.2.2.2.1 else MD p), c + 1, (if pr = true then pc + 1 else pc), v, bRes bt.2.2.2.2 z.2.2.1, z.2.2.2, upF F c z.2.1 z.2.2.1.2.2.2.2))))) = some X) := by
  unfold gCal at h
  rcases pT_any h with ⟨w1, w2⟩ | ⟨w1, w2⟩
  · exact Or.inl ⟨fun z => z.1 w1, w2.trans (by rw [tuF_1 w1])⟩
  by_cases k1 : nmC T n E c (tkN T n q)
  case neg =>
    rw [if_neg k1] at w2
    exact Or.inl ⟨fun z => k1 z.2.1, (Option.some.inj w2).symm.trans (by rw [tuF_c w1 k1])⟩
  rw [if_pos k1] at w2
  rcases pT_any w2 with ⟨w3, w4⟩ | ⟨w3, w4⟩
  · exact Or.inl ⟨fun z => z.2.2.1 w3, w4.trans (by rw [tuF_2 w1 k1 w3])⟩
  by_cases k2 : tkK T n (tkN T n (tkN T n q)) = 6
  case neg =>
    rw [if_neg k2] at w4
    exact Or.inl ⟨fun z => k2 z.2.2.2.1, (Option.some.inj w4).symm.trans (by rw [tuF_6 w1 k1 w3 k2])⟩
  rw [if_pos k2] at w4
  unfold gCb at w4
  rcases pT_any w4 with ⟨w5, w6⟩ | ⟨w5, w6⟩
  · exact Or.inl ⟨fun z => z.2.2.2.2 w5, w6.trans (by rw [tuF_3 w1 k1 w3 k2])⟩
  · exact Or.inr ⟨⟨w1, k1, w3, k2, w5⟩, w6⟩
theorem pb_ss {α β : Type} {a : α} {K : α → Option (Fl β)} : pb (some (Sum.inr a)) K = K a := rfl
theorem pb_nn {α β : Type} {e : Nat × Nat} {K : α → Option (Fl β)} : pb (some (Sum.inl e)) K = some (Sum.inl e) := rfl
theorem fu_s (n : Nat) : fu n = (40 * n + 39) + 1 := rfl
/-- a func -/
theorem c_function (h : DSt T n b N0 W K g σ) (hG : gCal T n false g.2.1 g.2.2.1 g.2.2.2.1 g.2.2.2.2.1 g.2.2.2.2.2.1 g.2.2.2.2.2.2.1 g.2.2.2.2.2.2.2.1 g.2.2.2.2.2.2.2.2 g.1 = some X) : Tm (fun k => f_X5_function k 0 L σ) (DPo b N0 X (fun h _ τ' => DSt T n b N0 W K h τ') σ 0 0) := by
  obtain ⟨c, N, vg, ⟨h1, h2, h3⟩, ⟨h4, h5, h6, h41⟩, ut, pg, ⟨eN, hN0, hcd⟩, ⟨bd1, bd2, bd3, bd4, hK⟩⟩ := h
  generalize g.2.1 = E at *
  generalize g.2.2.1 = MD at *
  generalize g.2.2.2.1 = nc at *
  generalize g.2.2.2.2.1 = pc at *
  generalize g.2.2.2.2.2.1 = v at *
  generalize g.2.2.2.2.2.2.1 = bt at *
  generalize g.2.2.2.2.2.2.2.1 = s at *
  generalize g.2.2.2.2.2.2.2.2 = F at *
  generalize g.1 = q at *
  refine Tm_mono (Q := DPo b N X (fun h _ τ' => DSt T n b N0 W K h τ') σ 0 0) ?_ (fun r z => DPo_w z hN0)
  have d0 := Dy_0 h1
  have evg : vg = v := (h3.1.2.1 rfl).2
  have j3 : fP b 3 ≠ 4004 := by cases b <;> decide
  have j12 : fP b 12 ≠ 4004 := by cases b <;> decide
  have j19 : fP b 19 ≠ 4004 := by cases b <;> decide
  have qn : q ≤ n := h1.1.2.2.2.1
  have t1 := tkN_b T n q qn
  have t2 := tkN_b T n _ t1.2.1
  have t3 := tkN_b T n _ t2.2.1
  refine Tm_suc (fun k => by rw [f_X5_function]) ?_
  rcases gCal_i hG with ⟨w1, w2⟩ | ⟨w1, w2⟩
  · rw [w2]
    exact dt_callD (z := Sum.inl _) d0 (Nat.le_refl _) (c_tellUnit (pr := false) (bt := bt) (L := lI lZ 1 1) h1 h2 h3 h6 rfl (Or.inl ⟨w1, rfl⟩)) (Or.inl ⟨_, rfl, rfl⟩)
  have n40 : nc < 40 := by have := h3.2.1.2.2.1; have := w1.2.1.2.2; omega
  refine dt_callD (z := Sum.inr ()) d0 (Nat.le_refl _) (c_tellUnit (pr := false) (bt := bt) (L := lI lZ 1 1) h1 h2 h3 h6 rfl (Or.inr ⟨w1, rfl⟩)) (Or.inr ⟨_, rfl, fun τ1 ret1 n1 n2 r1 dk1 dy1 => ?_⟩)
  obtain ⟨r1, r2, r3, r4, r5, r6, r7, r8, r9⟩ := r1
  generalize hE1 : eC1 T n false E nc (tkN T n q) bt = E1 at *
  have E1f : E1.2.2.2.2.1 = false ∧ E1.2.2.2.2.2.1 = false := by rw [← hE1]; exact ⟨rfl, rfl⟩
  have E1p : ∀ i, i < nc → E1.2.2.2.2.2.2 i = E.2.2.2.2.2.2 i := fun i hi => by rw [← hE1]; exact if_neg (by omega)
  have E1n : E1.2.2.2.2.2.2 nc = 0 := by rw [← hE1]; exact if_pos rfl
  have E1x : ∀ x, x ∈ E1.1 → x ∈ E.1 ∨ (x.2.2.2 = nc ∧ (x.2.2.1 = 2 → True) ∧ (x.2.2.1 = 3 → ¬ True)) := fun x hx => by
    rw [← hE1] at hx
    rcases List.mem_append.1 (show x ∈ E.1 ++ [(tkS T n (tkN T n q), bt.2.1, (if false = true then 3 else 2), nc)] from hx) with z | z
    · exact Or.inl z
    · rw [List.mem_singleton.1 z]
      exact Or.inr ⟨rfl, fun _ => trivial, fun e => absurd (show (2 : Nat) = 3 from e) (by decide)⟩
  -- nothing new is allowed
  have q2 := QS_ww (σ' := uI τ1 4004 0) (u' := nc + 1) (al' := 0) (v' := 0) (p' := 0) r2 (fun j hj => uI_o (fun e => hj (Or.inr (Or.inl e)))) rfl (fun _ _ => rfl) rfl (by rw [uI_o (by decide)]; exact r2.2.2.2.2.1.2.1) (by rw [uI_s]; rfl) r2.2.2.2.2.2.2.1.1 (Nat.zero_le _) (by rw [uI_o j19]; exact r2.2.2.2.2.2.2.2)
  have ph2 := Ph_s (σ := τ1) (σ' := uI τ1 4004 0) rfl
  have dy2 : Dy b σ N (0 + n1) (0 + n2) (uI τ1 4004 0) := ⟨DK_t dy1.1 q2.2 (Nat.le_refl _), by have := dy1.2.1; omega, by have := dy1.2.2; omega⟩
  have pm2 : PmS T n b nc 0 0 N s.1 0 E1 vg σ 0 E1 0 (fun _ => 0) (tkN T n (tkN T n (tkN T n q))) 0 (uI τ1 4004 0) := ⟨⟨q2.1, ⟨r3.1, ⟨by rw [uI_o j3]; exact r3.2.1.1, r3.2.1.2⟩, by rw [uI_o (by decide)]; exact r3.2.2.1, by rw [uI_o (by decide)]; exact r3.2.2.2.1, r3.2.2.2.2⟩, r4⟩, ⟨rfl, by omega⟩, ⟨by rw [uI_o j12]; exact r5, r6, r7, r8, r9⟩, MdN_0, rfl, ⟨rfl, rfl, rfl⟩, fun _ _ => rfl, E1n⟩
  have gz : ∃ x, GPm T n false nc (fu n) E1 0 (fun _ => 0) (tkN T n (tkN T n (tkN T n q))) 0 (bKeep bt T (tkN T n q) (tkE T n (tkN T n q) - tkN T n q)) = some x := by
    rcases pb_any w2 with ⟨yf, z, _⟩ | ⟨t, z, _⟩
    · exact ⟨_, z⟩
    · exact ⟨_, z⟩
  obtain ⟨x, hx⟩ := gz
  rw [hx] at w2
  have h16 : σ.2.2.1 (pR16 b) 0 = nI v ∧ v ≤ 60 := h1.2.2.2.2.2.2.1
  have Kq : PmK T n b nc 0 N s.1 E1 vg q 1 σ X (fun h _ τ' => DSt T n b N0 W K h τ') f_X5_function x := by
    refine ⟨fun ye e => ?_, fun a e M a1 a2 L' τ' dy pm k7 l1 hq hb => ?_⟩
    · rw [e, pb_nn] at w2
      exact (Option.some.inj w2).symm
    · rw [e, pb_ss] at w2
      have bq : 2 * N + 7 * (n - a.1) + 110 ≤ K := by omega
      exact c_fn1 (E := a.2.1) (bt := a.2.2.2.2.2) (bt0 := bt) (pc := if false = true then pc + 1 else pc) (F := F) (MD := MD) (md := a.2.2.2.1) pm k7 dy pg ut eN hN0 hcd n40 h16 h2.1 evg E1p E1x E1f l1 bd3 hb bd4 bq hK h41 w2
  rw [fu_s] at hx
  rw [GPm, if_pos rfl] at hx
  have e10 : (lI L 1 ret1).1 1 = nI E1.1.length := r1
  by_cases k7 : tkK T n (tkN T n (tkN T n (tkN T n q))) = 7
  · rw [if_pos k7] at hx
    refine Tm_yes ((lx_k (kk := 7) q2.1 (by decide)).2 k7) ?_
    exact Kq.2 _ (Option.some.inj hx).symm 0 _ _ (lI L 1 ret1) _ dy2 pm2 k7 e10 (by show q ≤ _; omega) bd2
  · rw [if_neg k7] at hx
    refine Tm_no (fun z => k7 ((lx_k (kk := 7) q2.1 (by decide)).1 z)) ?_
    exact fn_pm (L2 := lI (lI L 1 ret1) 2 0) (by omega) (fn_lp (by omega) _) hx Kq dy2 pm2 (by omega) bd2 r1 r1 (Nat.zero_le _)
end DYI
end JnS531
section JnS532
/-! The class: the params of a proc, with their modes. -/
section DYJ
variable {σ σ' σ0 σ2 τ τ' τ0 : CS} {L L2 : LV} {b pr : Bool} {T : Nat → Int32} {n q q' q0 q1 u al o v v0 v' mk mk' p sz nc a1 a2 m f w st r0 vg vg' N N0 N1 M j W np pc op b0 c : Nat} {y qh x : Int32} {l l' cs cs' : List Int32} {tb tb' A B : List Ent} {E E' E0 E1 : En} {bt bt0 : BT} {lo : Option Nat} {md : Nat → Nat} {MD : Nat → Nat → Nat} {g : PRG} {s : SB} {F : Nat → Int32} {X : Fl PRG} {S : PRG → Int32 → CS → Prop}
/-- the next token, among params -/
theorem PmS_x (pm : PmS T n b nc al mk N st qh E1 vg σ0 M E c md q v τ) (h : QS T n b (nc + 1) al (tbE (nc + 1) E) 1 q' v mk 0 N τ') (xk : XK b (nc + 1) sz N0 mk' τ τ') : PmS T n b nc al mk N st qh E1 vg σ0 M E c md q' v τ' := by
  obtain ⟨⟨h1, h2, h3⟩, ⟨h4, h4'⟩, ⟨h5, h6, h7, h8, h9⟩, h10, h11⟩ := pm
  have e13 := ZK_13 (ZK_of xk)
  exact ⟨⟨h, ZF_k h2 xk, h3⟩, ⟨h4, h4'⟩, ⟨(ZK_12 (ZK_of xk)).trans h5, UnK_t h6 (UnK_Z (ZK_of xk)), by rw [e13.1]; exact h7, by rw [e13.2.1]; exact h8, by rw [e13.2.2]; exact h9⟩, h10, h11⟩
theorem c_mp2 {z : Fl Unit} (pm : PmS T n b nc al mk N st qh E1 vg σ0 M E c md q v τ) (hu : nc + 1 < 41) (l1 : L.1 1 = nI E1.1.length) (l2 : L.1 2 = nI m) (hm : m ≤ 2) (hz : (∃ y, PaF T n (tbE (nc + 1) E) E.1.length q v c y ∧ z = Sum.inl y) ∨ ((NmG T n (tbE (nc + 1) E) E.1.length q v ∧ ¬ c = 8) ∧ z = Sum.inr ())) : Tm (fun k => f_X5_modeAndParameter k 2 L τ) (DPo b N z (fun _ _ τ' => ∀ E', tbE (nc + 1) E' = tbE (nc + 1) E ++ [(tkS T n q, 0, nc + 1, v, false)] → DE E' (nc + 1) vg (nc + 1) (v + 1) → DxR (nc + 1) E E' → PmS T n b nc al mk N st qh E1 vg σ0 (M + m * 4 ^ c) (sP E' nc (c + 1)) (c + 1) (updN md c m) (tkN T n q) (v + 1) τ') τ 0 0) := by
  have h1 := pm.1.1
  have d0 := Dy_0 h1
  have e3 : τ.1 4003 = nI (nc + 1) := h1.2.2.2.2.1.2.1
  have i42 : ¬ (nI (nc + 1) < 0 ∨ 42 ≤ (nI (nc + 1)).toNatClampNeg) := u_in (by rw [u_n (by omega)]; omega) (by decide)
  have cl : (nI (nc + 1)).toNatClampNeg = nc + 1 := n_cl (p := nc + 1) (by omega)
  have e14 : τ.2.2.1 (pR14 b) (nc + 1) = nI c := pm.2.2.1.2.2.2.1
  have e15 : τ.2.2.1 (pR15 b) (nc + 1) = nI M := pm.2.2.1.2.2.2.2
  refine Tm_suc (fun k => by rw [f_X5_modeAndParameter]) ?_
  refine Tm_oP h1.2.2.2.2.1.1 ?_
  rw [e3]
  refine Tm_chk i42 ?_
  rw [cl, e14]
  rcases hz with ⟨y0, w1, w2⟩ | ⟨w1, w2⟩
  · rw [w2]
    exact dt_callD (z := Sum.inl _) d0 (Nat.le_refl _) (c_paramF (L := lI lZ 1 (L.1 1)) pm hu l1 (Or.inl ⟨y0, w1, rfl⟩)) (Or.inl ⟨_, rfl, rfl⟩)
  rw [w2]
  refine dt_callD (z := Sum.inr ()) d0 (Nat.le_refl _) (c_paramF (L := lI lZ 1 (L.1 1)) pm hu l1 (Or.inr ⟨w1, rfl⟩)) (Or.inr ⟨_, rfl, fun τ1 ret1 n1 n2 r1 dk1 dy1 => ?_⟩)
  have r1' := r1
  obtain ⟨r2, r3, r4, r5, r6, r7, r8⟩ := r1
  refine Tm_oP r2.2.2.2.2.1.1 (Tm_oP r2.2.2.2.2.1.1 ?_)
  have e31 : τ1.1 4003 = nI (nc + 1) := r2.2.2.2.2.1.2.1
  show Tm (fun k => if ¬ (τ1.1 4003 < 0 ∨ 42 ≤ (τ1.1 4003).toNatClampNeg) then (if ¬ (τ1.1 4003 < 0 ∨ 42 ≤ (τ1.1 4003).toNatClampNeg) then (some ((0, 0), (uA τ1 (pR15 b) (τ1.1 4003).toNatClampNeg (τ1.2.2.1 (pR15 b) (τ1.1 4003).toNatClampNeg ||| (L.1 2 <<< ((2 * nI c) &&& 31)))), (0, 0))) else none) else none) _
  rw [e31]
  refine Tm_chk i42 (Tm_chk i42 ?_)
  have c8 : c < 8 := by have := pm.2.1.2; have := w1.2; omega
  rw [cl, r8, e15, l2, md_or c8 hm pm.2.2.2.1.1]
  obtain ⟨h3, dk3⟩ := QS_u (k := pR15 b) (i := nc + 1) (y := nI (M + m * 4 ^ c)) r2 (Or.inr (Or.inr rfl))
  have ph := Ph_s (σ := τ1) (σ' := uA τ1 (pR15 b) (nc + 1) (nI (M + m * 4 ^ c))) rfl
  refine Tm_some (Dfin ⟨DK_t dy1.1 dk3 (Nat.le_refl _), by have := dy1.2.1; omega, by have := dy1.2.2; omega⟩ (fun E' eE de dx => ?_))
  exact PmS_m (PmS_s pm w1.2 r1' eE de dx) pm.2.2.2.1 hm
/-- is there a mode? -/
abbrev isMd (k : Nat) : Prop := k = 35 ∨ k = 36 ∨ k = 37
/-- the fault of a param with its mode -/
def MpF (T : Nat → Int32) (n : Nat) (tb : List Ent) (r0 q v c : Nat) (y : Nat × Nat) : Prop := (tkK T n q = 0 ∧ y = (1, q)) ∨ (¬ tkK T n q = 0 ∧ PaF T n tb r0 q v c y)
theorem c_mp {z : Fl Unit} (pm : PmS T n b nc al mk N st qh E1 vg σ0 M E c md q v τ) (hu : nc + 1 < 41) (l1 : L.1 1 = nI E1.1.length) (hA : (isMd (tkK T n q) ∧ m = tkK T n q - 35 ∧ q1 = tkN T n q) ∨ (¬ isMd (tkK T n q) ∧ m = 0 ∧ q1 = q)) (hz : (∃ y, MpF T n (tbE (nc + 1) E) E.1.length q1 v c y ∧ z = Sum.inl y) ∨ ((¬ tkK T n q1 = 0 ∧ NmG T n (tbE (nc + 1) E) E.1.length q1 v ∧ ¬ c = 8) ∧ z = Sum.inr ())) : Tm (fun k => f_X5_modeAndParameter k 0 L τ) (DPo b N z (fun _ _ τ' => ∀ E', tbE (nc + 1) E' = tbE (nc + 1) E ++ [(tkS T n q1, 0, nc + 1, v, false)] → DE E' (nc + 1) vg (nc + 1) (v + 1) → DxR (nc + 1) E E' → PmS T n b nc al mk N st qh E1 vg σ0 (M + m * 4 ^ c) (sP E' nc (c + 1)) (c + 1) (updN md c m) (tkN T n q1) (v + 1) τ') τ 0 0) := by
  have h1 := pm.1.1
  have d0 := Dy_0 h1
  have k35 := lx_k (kk := 35) h1 (by decide)
  have k36 := lx_k (kk := 36) h1 (by decide)
  have k37 := lx_k (kk := 37) h1 (by decide)
  have kk0 : ¬ tkK T n q = 0 := h1.1.2.2.2.2.1
  rcases hA with ⟨a1, a2, a3⟩ | ⟨a1, a2, a3⟩
  · subst a2
    subst a3
    have b1 : Tm (fun k => f_X5_modeAndParameter k 1 L τ) (DPo b N z (fun _ _ τ' => ∀ E', tbE (nc + 1) E' = tbE (nc + 1) E ++ [(tkS T n (tkN T n q), 0, nc + 1, v, false)] → DE E' (nc + 1) vg (nc + 1) (v + 1) → DxR (nc + 1) E E' → PmS T n b nc al mk N st qh E1 vg σ0 (M + (tkK T n q - 35) * 4 ^ c) (sP E' nc (c + 1)) (c + 1) (updN md c (tkK T n q - 35)) (tkN T n (tkN T n q)) (v + 1) τ') τ 0 0) := by
      refine Tm_suc (fun k => by rw [f_X5_modeAndParameter]) ?_
      by_cases z1 : tkK T n (tkN T n q) = 0
      · have zn : z = Sum.inl (1, tkN T n q) := by
          rcases hz with ⟨y, ⟨_, a⟩ | ⟨a, _⟩, w2⟩ | w
          · rw [w2, a]
          · exact absurd z1 a
          · exact absurd z1 w.1.1
        rw [zn]
        exact dt_callQ (z := Sum.inl _) d0 (Nat.le_refl _) (c_advX h1 (Or.inl ⟨z1, rfl⟩)) (Or.inl ⟨_, rfl, rfl⟩)
      · refine dt_callQ (z := Sum.inr _) d0 (Nat.le_refl _) (c_advX h1 (Or.inr ⟨z1, rfl⟩)) (Or.inr ⟨_, rfl, fun τ1 ret1 n1 n2 q1 xk1 dy1 => ?_⟩)
        have pm1 := PmS_x pm q1 xk1
        have em : τ.1 3702 - 35 = nI (tkK T n q - 35) := by
          rcases a1 with e | e | e
          · rw [k35.2 e, e]; decide
          · rw [k36.2 e, e]; decide
          · rw [k37.2 e, e]; decide
        have t := c_mp2 (L := lI L 2 (τ.1 3702 - 35)) (m := tkK T n q - 35) (z := z) pm1 hu l1 em (by omega) (by
          rcases hz with ⟨y, ⟨a, _⟩ | ⟨_, a⟩, w2⟩ | w
          · exact absurd a z1
          · exact Or.inl ⟨y, a, w2⟩
          · exact Or.inr ⟨w.1.2, w.2⟩)
        refine Tm_mono t (fun r w => ?_)
        obtain ⟨w1, w2, w3, w4, w5⟩ := w
        have y1 := dy1.2.1
        have y2 := dy1.2.2
        exact ⟨w1, w2, fun e => by have := w3 e; omega, fun e => by have := w4 e; omega, DK_t dy1.1 w5 (Nat.le_refl _)⟩
    refine Tm_suc (fun k => by rw [f_X5_modeAndParameter]) ?_
    by_cases e35 : τ.1 3702 = 35
    · exact Tm_yes e35 b1
    refine Tm_no e35 ?_
    by_cases e36 : τ.1 3702 = 36
    · exact Tm_yes e36 b1
    refine Tm_no e36 ?_
    have e37 : τ.1 3702 = 37 := by
      rcases a1 with e | e | e
      · exact absurd (k35.2 e) e35
      · exact absurd (k36.2 e) e36
      · exact k37.2 e
    exact Tm_yes e37 b1
  · subst a2
    rw [a3] at hz
    rw [a3]
    refine Tm_suc (fun k => by rw [f_X5_modeAndParameter]) ?_
    refine Tm_no (fun e => a1 (Or.inl (k35.1 e))) ?_
    refine Tm_no (fun e => a1 (Or.inr (Or.inl (k36.1 e)))) ?_
    refine Tm_no (fun e => a1 (Or.inr (Or.inr (k37.1 e)))) ?_
    exact c_mp2 (L := lI L 2 0) (m := 0) (z := z) pm hu l1 rfl (by omega) (by
      rcases hz with ⟨y, ⟨a, _⟩ | ⟨_, a⟩, w2⟩ | w
      · exact absurd a kk0
      · exact Or.inl ⟨y, a, w2⟩
      · exact Or.inr ⟨w.1.2, w.2⟩)
/-- a proc's param -/
theorem pr_pm (hu : nc + 1 < 41) (ih : ∀ (E : En) (c : Nat) (md : Nat → Nat) (q v : Nat) (bt : BT) (x : Fl PV6), GPm T n true nc f E c md q v bt = some x → 1 ≤ c → PmK T n b nc al N st E1 vg q0 b0 σ0 X S f_X5_procedure x → ∀ (M a1 a2 : Nat) (L : LV) (τ : CS), Dy b σ0 N a1 a2 τ → PmS T n b nc al 0 N st 0 E1 vg σ0 M E c md q v τ → L.1 1 = nI E1.1.length → uN (L.1 2) + 1 ≤ c → q0 ≤ q → b0 ≤ bt.1 → Tm (fun k => f_X5_procedure k 2 L τ) (DPo b N X S σ0 a1 a2)) {c : Nat} {x : Fl PV6} (hG : gPI T n true E c q v bt (fun m r => GPm T n true nc f (sP r.2.1 nc (c + 1)) (c + 1) (updN md c m) r.1 r.2.2.1 r.2.2.2) = some x) (K : PmK T n b nc al N st E1 vg q0 b0 σ0 X S f_X5_procedure x) (dy : Dy b σ0 N a1 a2 τ) (pm : PmS T n b nc al 0 N st 0 E1 vg σ0 M E c md q v τ) (hq : q0 ≤ q) (hb : b0 ≤ bt.1) (l1 : y = nI E1.1.length) (l2 : L2.1 1 = nI E1.1.length) (l3 : uN (L2.1 2) ≤ c) : Tm (fun k => ox (f_X5_modeAndParameter k 0 (lI lZ 1 y) τ) (fun r => f_X5_procedure k 2 L2 r.2.1)) (DPo b N X S σ0 a1 a2) := by
  have qn : q ≤ n := pm.1.1.1.2.2.2.1
  have tb1 := tkN_b T n q qn
  have hex : ∃ m q1, ((isMd (tkK T n q) ∧ m = tkK T n q - 35 ∧ q1 = tkN T n q) ∨ (¬ isMd (tkK T n q) ∧ m = 0 ∧ q1 = q)) ∧ ((tkK T n q1 = 0 ∧ x = Sum.inl (1, q1)) ∨ (¬ tkK T n q1 = 0 ∧ gPJ T n E c m q1 v bt (fun m r => GPm T n true nc f (sP r.2.1 nc (c + 1)) (c + 1) (updN md c m) r.1 r.2.2.1 r.2.2.2) = some x)) := by
    unfold gPI at hG
    by_cases k : isMd (tkK T n q)
    · rw [if_pos ⟨rfl, k⟩] at hG
      refine ⟨_, _, Or.inl ⟨k, rfl, rfl⟩, ?_⟩
      rcases pT_any hG with w | w
      · exact Or.inl w
      · exact Or.inr w
    · rw [if_neg (fun z => k z.2)] at hG
      exact ⟨_, _, Or.inr ⟨k, rfl, rfl⟩, Or.inr ⟨pm.1.1.1.2.2.2.2.1, hG⟩⟩
  obtain ⟨m, q1, hA, hB⟩ := hex
  have q1q : q ≤ q1 ∧ q1 ≤ n := by
    rcases hA with w | w
    · rw [w.2.2]; omega
    · rw [w.2.2]; omega
  have tb2 := tkN_b T n q1 q1q.2
  have none_ : ∀ ye, MpF T n (tbE (nc + 1) E) E.1.length q1 v c ye → x = Sum.inl ye → Tm (fun k => ox (f_X5_modeAndParameter k 0 (lI lZ 1 y) τ) (fun r => f_X5_procedure k 2 L2 r.2.1)) (DPo b N X S σ0 a1 a2) := fun ye e1 e2 => by
    rw [K.1 _ e2]
    exact dt_callD (z := Sum.inl _) dy (Nat.le_refl _) (c_mp (L := lI lZ 1 y) pm hu l1 hA (Or.inl ⟨ye, e1, rfl⟩)) (Or.inl ⟨_, rfl, rfl⟩)
  rcases hB with ⟨w1, w2⟩ | ⟨w1, w2⟩
  · exact none_ _ (Or.inl ⟨w1, rfl⟩) w2
  unfold gPJ at w2
  by_cases c8 : c = 8
  · rw [if_pos c8] at w2
    exact none_ _ (Or.inr ⟨w1, PaF_8 c8⟩) (Option.some.inj w2).symm
  rw [if_neg c8] at w2
  have okn : tkK T n q1 = 26 → okN (tkS T n q1) := fun k => (nm_same (R := τ.2.2.1 38) (hi := 0) (lo := 0) pm.1.1.1.2.1 q1q.2 k).1
  rcases gl_any pm.1.2.2 (by omega) okn w2 with ⟨yf, y1, y2⟩ | ⟨y1, E', b', y2, y3, y4, y5, y6⟩
  · exact none_ _ (Or.inr ⟨w1, PaF_of c8 y1⟩) y2
  · refine dt_callD (z := Sum.inr ()) dy (Nat.le_refl _) (c_mp (L := lI lZ 1 y) pm hu l1 hA (Or.inr ⟨⟨w1, y1, c8⟩, rfl⟩)) (Or.inr ⟨_, rfl, fun τ1 ret1 n1 n2 r1 dk1 dy1 => ?_⟩)
    exact ih _ (c + 1) _ _ (v + 1) b' x y6 (by omega) K _ _ _ L2 τ1 dy1 (r1 E' y2 y3 y4) l2 (by omega) (by omega) (by omega)
/-- a proc's params behind the first -/
theorem pr_lp (hu : nc + 1 < 41) : ∀ (f : Nat) (E : En) (c : Nat) (md : Nat → Nat) (q v : Nat) (bt : BT) (x : Fl PV6), GPm T n true nc f E c md q v bt = some x → 1 ≤ c → PmK T n b nc al N st E1 vg q0 b0 σ0 X S f_X5_procedure x → ∀ (M a1 a2 : Nat) (L : LV) (τ : CS), Dy b σ0 N a1 a2 τ → PmS T n b nc al 0 N st 0 E1 vg σ0 M E c md q v τ → L.1 1 = nI E1.1.length → uN (L.1 2) + 1 ≤ c → q0 ≤ q → b0 ≤ bt.1 → Tm (fun k => f_X5_procedure k 2 L τ) (DPo b N X S σ0 a1 a2)
  | 0, E, c, md, q, v, bt, x, hG => by cases hG
  | f + 1, E, c, md, q, v, bt, x, hG => by
    intro hc K M a1 a2 L τ dy pm l1 l2 hq hb
    rw [GPm, if_neg (by omega)] at hG
    have c8 := pm.2.1.2
    have h1 := pm.1.1
    have qn : q ≤ n := h1.1.2.2.2.1
    have tb1 := tkN_b T n q qn
    refine Tm_suc (fun k => by rw [f_X5_procedure]) ?_
    refine Tm_no (by rw [u_ltn (by decide) (by omega)]; show ¬ 8 < uN (L.1 2); omega) ?_
    by_cases k12 : tkK T n q = 12
    · rw [if_pos k12] at hG
      refine Tm_yes ((lx_k (kk := 12) h1 (by decide)).2 k12) ?_
      rcases pT_any hG with ⟨z1, z2⟩ | ⟨z1, z2⟩
      · rw [K.1 _ z2]
        exact dt_callQ (z := Sum.inl _) dy (Nat.le_refl _) (c_advX h1 (Or.inl ⟨z1, rfl⟩)) (Or.inl ⟨_, rfl, rfl⟩)
      · refine dt_callQ (z := Sum.inr _) dy (Nat.le_refl _) (c_advX h1 (Or.inr ⟨z1, rfl⟩)) (Or.inr ⟨_, rfl, fun τ1 ret1 n1 n2 q1 xk1 dy1 => ?_⟩)
        have pm1 := PmS_x pm q1 xk1
        have l2' : uN ((lI L 2 (L.1 2 + 1)).1 2) ≤ c := by
          show uN (L.1 2 + 1) ≤ c
          rw [u_inc (by omega)]
          omega
        exact pr_pm hu (pr_lp hu f) z2 K dy1 pm1 (by omega) hb l1 l1 l2'
    · rw [if_neg k12] at hG
      refine Tm_no (fun z => k12 ((lx_k (kk := 12) h1 (by decide)).1 z)) ?_
      by_cases k7 : tkK T n q = 7
      · rw [if_pos k7] at hG
        exact K.2 _ (Option.some.inj hG).symm M a1 a2 L τ dy pm k7 l1 hq hb
      · rw [if_neg k7] at hG
        rw [K.1 _ (Option.some.inj hG).symm]
        refine Tm_suc (fun k => by rw [f_X5_procedure]) ?_
        exact dt_callQ (z := Sum.inl _) dy (Nat.le_refl _) (c_closesQ (kk := 7) h1 (by decide) rfl (Or.inl ⟨fun e => k7 e.1, rfl⟩)) (Or.inl ⟨_, rfl, by rw [wF_n k7]⟩)
end DYJ
end JnS532
section JnS533
/-! The class: procs are read. -/
section DYK
variable {σ σ' σ0 σ2 τ τ' τ0 τp : CS} {L L2 : LV} {b pr : Bool} {T : Nat → Int32} {n q q' q0 q1 u al o v v0 v' mk mk' p sz nc a1 a2 m f w st r0 vg vg' N N0 N1 M j W np pc op b0 qp vp K : Nat} {y qh x : Int32} {l l' cs cs' : List Int32} {tb tb' A B : List Ent} {E E' E0 E1 Ep : En} {bt bt0 : BT} {lo : Option Nat} {md : Nat → Nat} {MD : Nat → Nat → Nat} {c : Ct} {g : PRG} {s : SB} {F : Nat → Int32} {X : Fl PRG} {S : PRG → Int32 → CS → Prop}
/-- within the unit: its rows but for slots stay -/
def PvR (b : Bool) (u : Nat) (τp τ : CS) : Prop := UnK b u τp τ ∧ (τ.2.2.1 (pR13 b) u = τp.2.2.1 (pR13 b) u ∧ τ.2.2.1 (pR14 b) u = τp.2.2.1 (pR14 b) u ∧ τ.2.2.1 (pR15 b) u = τp.2.2.1 (pR15 b) u) ∧ τ.1 (fP b 12) = τp.1 (fP b 12)
theorem PvR_r (b : Bool) (u : Nat) (τ : CS) : PvR b u τ τ := ⟨fun _ _ => ⟨⟨rfl, rfl⟩, ⟨rfl, rfl⟩, rfl⟩, ⟨rfl, rfl, rfl⟩, rfl⟩
theorem PvR_Z (h : PvR b u τp τ) (z : ZK b u p sz mk τ τ') : PvR b u τp τ' := by
  have e := ZK_13 z
  exact ⟨UnK_t h.1 (UnK_Z z), ⟨by rw [e.1]; exact h.2.1.1, by rw [e.2.1]; exact h.2.1.2.1, by rw [e.2.2]; exact h.2.1.2.2⟩, (ZK_12 z).trans h.2.2⟩
/-- what a proc's body stands on -/
def PrQ (T : Nat → Int32) (n : Nat) (b : Bool) (nc N N0 W st : Nat) (E1 E0 : En) (vg v0 M np : Nat) (md : Nat → Nat) (MD : Nat → Nat → Nat) (Ep : En) (qp vp : Nat) (σ0 τp : CS) (c : Ct) : Prop := (PmS T n b nc 2 0 N st 0 E1 vg σ0 M Ep np md qp vp τp ∧ PgT E0 vg nc N0 W c ∧ UTb b nc c MD σ0) ∧ (tcN c = N ∧ N0 ≤ N ∧ ∀ i, N0 ≤ i → i < N → cdr b σ0 i = tcC c i) ∧ nc < 40 ∧ ((σ0.2.2.1 (pR16 b) 0 = nI v0 ∧ v0 ≤ 60) ∧ σ0.2.2.1 (pR18 b) 0 = nI v0 ∧ vg = v0 ∧ σ0.2.2.1 (pR18 b) 41 = 0) ∧ (∀ i, i < nc → E1.2.2.2.2.2.2 i = E0.2.2.2.2.2.2 i) ∧ (∀ x, x ∈ E1.1 → x ∈ E0.1 ∨ (x.2.2.2 = nc ∧ (x.2.2.1 = 2 → False) ∧ (x.2.2.1 = 3 → ¬ False))) ∧ (E1.2.2.2.2.1 = true ∧ E1.2.2.2.2.2.1 = true) ∧ st ≤ 400 ∧ n ≤ 10240
/-- its body: block end ; -/
theorem c_pr4 {MD' : Nat → Nat → Nat} (hMD : MD' = fun p => if p = nc then md else MD p) (pq : PrQ T n b nc N N0 W s.1 E1 E0 vg v0 M np md MD Ep qp vp σ0 τp c) (h : QS T n b (nc + 1) 2 (tbE (nc + 1) E) 0 q v 0 0 N τ) (zf : ZF b (nc + 1) v s.1 none 0 τ) (de : DE E (nc + 1) vg (nc + 1) v) (pv : PvR b (nc + 1) τp τ) (eE : E.1 = Ep.1 ∧ E.2.2 = Ep.2.2) (hnp : np ≤ v) (dy : Dy b σ0 N a1 a2 τ) (l1 : L.1 1 = nI E1.1.length) (hb1 : 1 ≤ bt.1) (bd : 2 * N + 7 * (n - q) + 110 ≤ K) (hq : qp < q) (hqp : 2 * N + 7 * (n - qp) + 110 ≤ K) (hK : K ≤ 73728) (hG : pb (GS T n MD' (fu n) 0 E 0 0 q v (-1) 0 0 bt s) (fun t => pW T n 38 t.1 (fun q2 => pW T n 13 q2 (fun q3 => some (Sum.inr (q3, (E.1, [], [], 0, true, true, E.2.2.2.2.2.2), MD', nc + 1, pc + 1, v0, bRes bt0.2.2.2.2 t.2.2.2.2.1, t.2.2.2.2.2, upF F nc (Jvm.Pilot.CSetHouseLaw_law_r6264_2ea8b6.hd t.2.2.2.1, t.2.1) t.2.2.2.2.1.2.2.2.2))))) = some X) : Tm (fun k => f_X5_procedure k 4 L τ) (DPo b N X (fun g _ τ' => DSt T n b N0 W K g τ') σ0 a1 a2) := by
  obtain ⟨⟨pm, pg, ut⟩, ⟨eN, hN0, hcd⟩, n40, ⟨⟨h16, h16'⟩, h18, hvg, h41⟩, eP, hx, ⟨f1, f2⟩, hs, n10⟩ := pq
  have pm0 := pm
  obtain ⟨⟨p1, p2, p3⟩, ⟨p4, p4'⟩, ⟨p5, p6, p7, p8, p9⟩, p10, ⟨g1, ⟨g2, g3, g4⟩, g5, g6⟩⟩ := pm
  have qn : q ≤ n := h.1.2.2.2.1
  have v60 : v ≤ 60 := de.2.1.2.2.2
  have rk : RK = 40000 := rfl
  have tl : (tbE (nc + 1) E).length = E.1.length + v := by rw [tbE_l, de.1.2.2 (by omega)]
  have el := de.2.1
  obtain ⟨⟨ti, pgu, hD⟩, ut2⟩ := Un_in (isF := False) (ρ := 2) (v' := v) (τ' := τ) pm0 pg ut eN hN0 n40 ⟨hnp, v60⟩ (by omega) (fun _ => Nat.le_refl _) eP hx E ⟨eE.1, by rw [eE.2]⟩ pv.1 pv.2.1 zf.1
  rw [← hMD] at ut2
  have e1 : E.2.2.2.2.1 = true := by rw [eE.2, g3]; exact f1
  have e2 : E.2.2.2.2.2.1 = true := by rw [eE.2, g4]; exact f2
  have sx := StX_P de pgu ut2 (by omega) e1 e2 n10
  have cx : CxS n E b (nc + 1) 2 (glD E vg) (VmD v) (PcD E) MD' (tbE (nc + 1) E) 0 none τ := ⟨sx, de.1.1, by omega, ⟨fun _ => rfl, fun _ => rfl⟩, fun p e => by cases e⟩
  have bdb : BdB n 0 q v 0 N v (tbE (nc + 1) E).length := ⟨by omega, by omega, by omega, by omega⟩
  have gz : ∃ x, GS T n MD' (fu n) 0 E 0 0 q v (-1) 0 0 bt s = some x := by
    rcases pb_any hG with ⟨yf, z, _⟩ | ⟨t, z, _⟩
    · exact ⟨_, z⟩
    · exact ⟨_, z⟩
  obtain ⟨xs, hxs⟩ := gz
  obtain ⟨z, bem, blk⟩ := PBk_all (T := T) (n := n) (b := b) (u := nc + 1) (al := 2) (MD := MD') (fu n) E 0 0 q v (-1) 0 0 bt s xs qn v60 hs hb1 hxs
  have t0 := blk 120 (glD E vg) (PcD E) (VmD v) (tbE (nc + 1) E) 0 N v none 0 τ lZ h zf cx bdb (by omega)
  refine Tm_suc (fun k => by rw [f_X5_procedure]) ?_
  rw [hxs] at hG
  rcases bem with ⟨ye, z1, z2⟩ | ⟨r, z1, z2⟩
  · rw [z2] at hG
    rw [(Option.some.inj hG).symm]
    rw [z1] at t0
    exact dt_callZ (z := Sum.inl _) dy (Nat.le_refl _) t0 (Or.inl ⟨_, rfl, rfl⟩)
  rw [z1] at t0
  refine dt_callZ (z := Sum.inr r) dy (Nat.le_refl _) t0 (Or.inr ⟨_, rfl, fun τ1 ret1 n1 n2 r1 zk1 dy1 => ?_⟩)
  obtain ⟨cs, qs, ns, q1, cd1, zf1, sm, js, ⟨ln, lns, lqs⟩, lq, lv⟩ := r1
  have qs0 : qs = [] := List.eq_nil_of_length_eq_zero (Nat.le_zero.1 lqs)
  rw [qs0] at sm zf1 js
  have r1n : r.1 ≤ n := q1.1.2.2.2.1
  rcases z2 with ⟨z3, z4⟩ | ⟨t, z3, z4, z5, z6⟩
  · rw [z3] at hG
    rw [(Option.some.inj hG).symm]
    exact dt_callQ (z := Sum.inl _) dy1 (Nat.le_add_right _ _) (c_expectQ (kk := 38) q1 (by decide) rfl (Or.inl ⟨fun e => z4 (Or.inr (Or.inl e.1)), rfl⟩)) (Or.inl ⟨_, rfl, by rw [wF_n (fun e => z4 (Or.inr (Or.inl e)))]⟩)
  rw [z3] at hG
  have hG' : pW T n 38 t.1 (fun q2 => pW T n 13 q2 (fun q3 => some (Sum.inr (q3, (E.1, [], [], 0, true, true, E.2.2.2.2.2.2), MD', nc + 1, pc + 1, v0, bRes bt0.2.2.2.2 t.2.2.2.2.1, t.2.2.2.2.2, upF F nc (Jvm.Pilot.CSetHouseLaw_law_r6264_2ea8b6.hd t.2.2.2.1, t.2.1) t.2.2.2.2.1.2.2.2.2)))) = some X := hG
  rw [z4] at hG'
  have gmo := gs_mo (fu n) 0 E 0 0 q v (-1) 0 0 bt s t 1 (by decide) qn v60 hs (by rw [hxs, z3]) (Nat.le_refl _) hb1 (fun _ e => absurd rfl e) (fun e => absurd e (by decide))
  have tb2 := tkN_b T n r.1 r1n
  rcases pW_any hG' with ⟨w1, w2⟩ | ⟨w1, w2⟩
  · rw [w2]
    exact dt_callQ (z := Sum.inl _) dy1 (Nat.le_add_right _ _) (c_expectQ (kk := 38) q1 (by decide) rfl (Or.inl ⟨w1, rfl⟩)) (Or.inl ⟨_, rfl, rfl⟩)
  refine dt_callQ (z := Sum.inr _) dy1 (Nat.le_add_right _ _) (c_expectQ (kk := 38) q1 (by decide) rfl (Or.inr ⟨w1, rfl⟩)) (Or.inr ⟨_, rfl, fun τ2 ret2 n3 n4 q2 xk2 dy2 => ?_⟩)
  have gq2 := tb2.2.2.2 (by rw [w1.1]; decide)
  have tb3 := tkN_b T n (tkN T n r.1) tb2.2.1
  have lN : N + cs.length + 3 ≤ 36864 := by omega
  refine dt_callQ (z := Sum.inr ()) dy2 (Nat.le_add_right _ _) (c_pushQ (L := lI lZ 1 (-2147483648)) q2 lit_om (by omega)) (Or.inr ⟨_, rfl, fun τ3 ret3 n5 n6 r3 xk3 dy3 => ?_⟩)
  obtain ⟨ps, ps2, q3, cd3, eps⟩ := r3
  refine Tm_oP q3.2.2.2.2.1.1 ?_
  refine dt_callQ (z := Sum.inr ()) dy3 (by omega) (c_emitQ (oq := 20) q3 rfl rfl (by omega)) (Or.inr ⟨_, rfl, fun τ4 ret4 n7 n8 r4 xk4 dy4 => ?_⟩)
  obtain ⟨q4, cd4⟩ := r4
  rcases pW_any w2 with ⟨w3, w4⟩ | ⟨w3, w4⟩
  · rw [w4]
    exact dt_callQ (z := Sum.inl _) dy4 (by omega) (c_expectQ (kk := 13) q4 (by decide) rfl (Or.inl ⟨w3, rfl⟩)) (Or.inl ⟨_, rfl, rfl⟩)
  have gq4 := tb3.2.2.2 (by rw [w3.1]; decide)
  rw [(Option.some.inj w4).symm]
  refine dt_callQ (z := Sum.inr _) dy4 (by omega) (c_expectQ (kk := 13) q4 (by decide) rfl (Or.inr ⟨w3, rfl⟩)) (Or.inr ⟨_, rfl, fun τ5 ret5 n9 n10' q5 xk5 dy5 => ?_⟩)
  have zk2 := ZK_t zk1 (ZK_of xk2) (Nat.le_refl _) (Nat.le_add_right _ _) (Nat.le_refl _)
  have zk3 := ZK_t zk2 (ZK_of xk3) (Nat.le_refl _) (Nat.le_add_right _ _) (Nat.le_refl _)
  have zk4 := ZK_t zk3 (ZK_of xk4) (Nat.le_refl _) (by omega) (Nat.le_refl _)
  have zk5 := ZK_t zk4 (ZK_of xk5) (Nat.le_refl _) (by omega) (Nat.le_refl _)
  have pv5 := PvR_Z pv zk5
  have uk5 : UnK b (nc + 1) σ0 τ5 := UnK_t p6 pv5.1
  have e16 : τ5.2.2.1 (pR16 b) 0 = nI v0 := ((uk5 0 (by omega)).2.1.2).trans h16
  have q5' : QS T n b (nc + 1) 2 (E.1.map gEn ++ E.2.1.reverse.map (lEn (nc + 1))) 0 (tkN T n (tkN T n r.1)) r.2.1 0 0 (N + cs.length + 2 + 1) τ5 := q5
  refine Tm_op (cl_unit q5' e16 h16' (by rw [List.length_map]; show L.1 1 = _; rw [l1, eE.1, g1])) (fun r6 z6' => ?_)
  obtain ⟨q6, dk6, e62, e61⟩ := z6'
  have ph6 := Ph_s (σ := τ5) (σ' := r6.2) (by rw [e62])
  have dy6 : Dy b σ0 N (a1 + n1 + n3 + n5 + n7 + n9) (a2 + n2 + n4 + n6 + n8 + n10') r6.2 := ⟨DK_t dy5.1 dk6 (by omega), by have := dy5.2.1; omega, by have := dy5.2.2; omega⟩
  refine Tm_some (Dfin dy6 ?_)
  have j3 : ¬ (fP b 3 = 4003 ∨ fP b 3 = 4004 ∨ fP b 3 = fP b 11) := by cases b <;> decide
  have j12 : ¬ (fP b 12 = 4003 ∨ fP b 12 = 4004 ∨ fP b 12 = fP b 11) := by cases b <;> decide
  have j8 : ¬ (4008 = 4003 ∨ 4008 = 4004 ∨ 4008 = fP b 11) := by cases b <;> decide
  have j9 : ¬ (4009 = 4003 ∨ 4009 = 4004 ∨ 4009 = fP b 11) := by cases b <;> decide
  have cdf : ∀ i, cdr b r6.2 i = cdr b τ5 i := fun i => by
    show r6.2.2.2.1 (r6.2.2.2.2.2.2.1.2.2.2.2 b |> pR0) i = _
    rw [e62]
  have cdA : ∀ i, i < cs.length → cdr b r6.2 (N + i) = cs.getD i 0 := fun i hi => by
    rw [cdf, (xk5.2.2.2.2.2.1 (N + i) (by omega)).1, (xk4.2.2.2.2.2.1 (N + i) (by omega)).1, (xk3.2.2.2.2.2.1 (N + i) (by omega)).1, (xk2.2.2.2.2.2.1 (N + i) (by omega)).1]
    exact cd1 i hi
  have cdB : ∀ i, i < 2 → cdr b r6.2 (N + cs.length + i) = ps.getD i 0 := fun i hi => by
    rw [cdf, (xk5.2.2.2.2.2.1 (N + cs.length + i) (by omega)).1, (xk4.2.2.2.2.2.1 (N + cs.length + i) (by omega)).1]
    exact cd3 i hi
  have cdC : cdr b r6.2 (N + cs.length + 2) = em 20 0 := by
    rw [cdf, (xk5.2.2.2.2.2.1 (N + cs.length + 2) (by omega)).1]
    exact cd4
  have eNu : tcN (unB c (nc + 1) np v False 2) = N := eN
  have eFu : tcF (unB c (nc + 1) np v False 2) (nc + 1) = v := if_pos rfl
  have eKu : ¬ tcK (unB c (nc + 1) np v False 2) (nc + 1) := by
    show ¬ (if nc + 1 = nc + 1 then False else _)
    rw [if_pos rfl]
    exact id
  have hC1 : ∀ i, i < N → cdX N0 c b r6.2 i = tcC (unB c (nc + 1) np v False 2) i := cdX_1 hN0 hcd dy6.1
  have st4 := zf1.2.1.2
  obtain ⟨D, pgt⟩ := Un_p (C := cdX N0 c b r6.2) (cs := cs) (F := v) (Bd := bdO 0 v) (ns := ns) ti pgu (by omega) ⟨by omega, Nat.le_refl _⟩ eKu eFu v60 (by rw [eNu]; exact hD) (by rw [eNu]; exact hN0) (by rw [eNu]; exact sm) (by unfold bdO; omega) (by omega) (by rw [eNu]; omega) (by rw [eNu]; exact hC1) (by rw [eNu]; exact fun i hi => by rw [cdX_2 (by omega)]; exact cdA i hi) (by
    rw [eNu, cdX_2 (by omega), cdX_2 (by omega), cdX_2 (by omega)]
    have y0 := cdB 0 (by decide)
    have y1 := cdB 1 (by decide)
    rw [eps] at y0 y1
    exact ⟨y0, y1, cdC⟩)
  rw [eNu] at pgt
  have zf5 : ZF b (nc + 1) v r.2.2 none 0 τ5 := ZF_k (ZF_k (ZF_k (ZF_k zf1 xk2) xk3) xk4) xk5
  have ne0 : ¬ 0 = nc + 1 := fun z => Nat.noConfusion z
  have e18 : τ5.2.2.1 (pR18 b) 0 = nI v0 := ((uk5 0 ne0).2.2).trans h18
  have zf6 : ZF b 0 v0 t.2.2.2.2.2.1 none 0 r6.2 := by
    rw [z6]
    refine ⟨by rw [e62]; exact e18, ⟨by rw [e61 _ j3]; exact zf5.2.1.1, st4⟩, by rw [e61 _ j8]; exact zf5.2.2.1, by rw [e61 _ j9]; exact zf5.2.2.2.1, ?_⟩
    show r6.2.2.2.2.2.1 42 = 64 ∨ r6.2.2.2.2.2.1 42 = 16384
    rw [e62]
    exact zf5.2.2.2.2
  have ut6 : UTb b (nc + 1) (mkc (unB c (nc + 1) np v False 2) (cdX N0 c b r6.2) (N + cs.length + 3) D) MD' r6.2 := by
    intro i hi
    rw [e62]
    have e13 := ZK_13 zk5
    obtain ⟨⟨y1, y2, y3⟩, y4⟩ := ut2 i hi
    refine ⟨⟨by rw [e13.1]; exact y1, by rw [e13.2.1]; exact y2, ?_⟩, fun j hj => by rw [e13.2.2]; exact y4 j hj⟩
    show τ5.2.2.1 (pR18 b) (i + 1) = nI (tcF (unB c (nc + 1) np v False 2) (i + 1))
    by_cases ei : i = nc
    · rw [ei, eFu]
      exact zf5.1
    · rw [(UnK_Z zk5 (i + 1) (fun z => ei (Nat.succ.inj z))).2.2]
      exact y3
  have hb9 : 1 ≤ t.2.2.2.2.1.1 := by
    have y := gmo.1
    unfold MoZ at y
    omega
  have bd9 : 2 * (N + cs.length + 3) + 7 * (n - tkN T n (tkN T n r.1)) + 110 ≤ K := by omega
  exact fn_end (c := mkc (unB c (nc + 1) np v False 2) (cdX N0 c b r6.2) (N + cs.length + 3) D) q6 zf6 de hvg h16' (by rw [e61 _ j12, pv5.2.2, p5]) ut6 pgt rfl (by show N0 ≤ N + cs.length + 3; omega) (fun i h1 _ => (cdX_2 h1).symm) bd9 hK (by rw [e62]; exact ((uk5 41 (by omega)).2.2).trans h41) hb9 (by rw [z6]; exact st4) n10
end DYK
end JnS533
section JnS534
/-! The class: procs are read: their variables; the whole. -/
section DYL
variable {σ σ' σ0 σ2 τ τ' τ0 τp : CS} {L L2 : LV} {b pr : Bool} {T : Nat → Int32} {n q q' q0 q1 u al o v v0 v' mk mk' p sz nc a1 a2 m f w st r0 vg vg' N N0 N1 M j W np pc b0 qp vp K : Nat} {y qh x : Int32} {l l' cs cs' : List Int32} {tb tb' A B : List Ent} {E E' E0 E1 Ep : En} {bt bt0 : BT} {lo : Option Nat} {md : Nat → Nat} {MD MD' : Nat → Nat → Nat} {c : Ct} {g : PRG} {s : SB} {F : Nat → Int32} {X : Fl PRG} {S : PRG → Int32 → CS → Prop}
/-- what the grammar has behind a proc's variables -/
def gP4 (T : Nat → Int32) (n : Nat) (MD' : Nat → Nat → Nat) (nc pc v0 : Nat) (bt0 : BT) (F : Nat → Int32) (s : SB) (Ep : En) (r : DV) : Option (Fl PRG) := pb (GS T n MD' (fu n) 0 r.2.1 0 0 r.1 r.2.2.1 (-1) 0 0 r.2.2.2 s) (fun t => pW T n 38 t.1 (fun q2 => pW T n 13 q2 (fun q3 => some (Sum.inr (q3, (Ep.1, [], [], 0, true, true, Ep.2.2.2.2.2.2), MD', nc + 1, pc + 1, v0, bRes bt0.2.2.2.2 t.2.2.2.2.1, t.2.2.2.2.2, upF F nc (Jvm.Pilot.CSetHouseLaw_law_r6264_2ea8b6.hd t.2.2.2.1, t.2.1) t.2.2.2.2.1.2.2.2.2)))))
/-- rows of variables of a proc -/
theorem pr_va (hMD : MD' = fun p => if p = nc then md else MD p) (pq : PrQ T n b nc N N0 W s.1 E1 E0 vg v0 M np md MD Ep qp vp σ0 τp c) (hqp : 2 * N + 7 * (n - qp) + 110 ≤ K) (hK : K ≤ 73728) : ∀ (f : Nat) (E : En) (q v : Nat) (bt : BT) (x : Fl DV), GVs T n f E q v bt = some x → (∀ ye, x = Sum.inl ye → X = Sum.inl ye) → (∀ r, x = Sum.inr r → gP4 T n MD' nc pc v0 bt0 F s Ep r = some X) → ∀ (a1 a2 : Nat) (L : LV) (τ : CS), QS T n b (nc + 1) 2 (tbE (nc + 1) E) 0 q v 0 0 N τ → ZF b (nc + 1) v s.1 none 0 τ → DE E (nc + 1) vg (nc + 1) v → PvR b (nc + 1) τp τ → (E.1 = Ep.1 ∧ E.2.2 = Ep.2.2) → np ≤ v → Dy b σ0 N a1 a2 τ → L.1 1 = nI E1.1.length → uN (L.1 2) ≤ v → 1 ≤ bt.1 → qp < q → Tm (fun k => f_X5_procedure k 3 L τ) (DPo b N X (fun g _ τ' => DSt T n b N0 W K g τ') σ0 a1 a2)
  | 0, E, q, v, bt, x, hG => by cases hG
  | f + 1, E, q, v, bt, x, hG => by
    intro hX hY a1 a2 L τ h zf de pv eE hnp dy l1 l2 hb1 hq
    rw [GVs] at hG
    have n40 := pq.2.2.1
    have qn : q ≤ n := h.1.2.2.2.1
    have v60 : v ≤ 60 := de.2.1.2.2.2
    refine Tm_suc (fun k => by rw [f_X5_procedure]) ?_
    refine Tm_no (by rw [u_ltn (by decide) (by omega)]; show ¬ 32768 < uN (L.1 2); omega) ?_
    by_cases k32 : tkK T n q = 32
    · rw [if_pos k32] at hG
      refine Tm_yes ((lx_k (kk := 32) h (by decide)).2 k32) ?_
      have g1 : Ep.1 = E1.1 := pq.1.1.2.2.2.2.1
      have er : (lI lZ 1 (L.1 1)).1 1 = nI (r0U (nc + 1) E) := by
        show L.1 1 = _
        rw [l1, show r0U (nc + 1) E = E.1.length from if_neg (by omega), eE.1, g1]
      have gz : ∃ y, pT T n q (fun q1 => GVr T n (fu n) E q1 v bt) = some y := by
        rcases pb_any hG with ⟨yf, z, _⟩ | ⟨t, z, _⟩
        · exact ⟨_, z⟩
        · exact ⟨_, z⟩
      obtain ⟨y, hy⟩ := gz
      have t0 := c_vars (L := lI lZ 1 (L.1 1)) (by omega) h zf de er hy
      rw [hy] at hG
      cases y with
      | inl yf =>
        rw [pb_nn] at hG
        rw [hX _ (Option.some.inj hG).symm]
        exact dt_callZ (z := Sum.inl _) dy (Nat.le_refl _) t0 (Or.inl ⟨_, rfl, rfl⟩)
      | inr t =>
        rw [pb_ss] at hG
        have mo : t.2.2.2.1 = bt.1 := by
          rcases pT_any hy with ⟨_, z⟩ | ⟨_, z⟩
          · cases z
          · exact (gvr_mo _ _ _ _ _ _ (tkN_b T n q qn).2.1 v60 z).2.2.2.2.1
        refine dt_callZ (z := Sum.inr t) dy (Nat.le_refl _) t0 (Or.inr ⟨_, rfl, fun τ1 ret1 n1 n2 r1 zk1 dy1 => ?_⟩)
        obtain ⟨vg1, r1, r2, r3, ⟨r4, r5⟩, r6, r7⟩ := r1
        have ev : vg1 = vg := r5 (by omega)
        rw [ev] at r3
        have l2' : uN ((lI L 2 (L.1 2 + 1)).1 2) ≤ t.2.2.1 := by
          show uN (L.1 2 + 1) ≤ _
          rw [u_inc (by omega)]
          omega
        exact pr_va hMD pq hqp hK f t.2.1 t.1 t.2.2.1 t.2.2.2 x hG hX hY _ _ (lI L 2 (L.1 2 + 1)) τ1 r1 r2 r3 (PvR_Z pv zk1) ⟨(r4.2.1 (by omega)).trans eE.1, r4.1.trans eE.2⟩ (by omega) dy1 l1 l2' (by omega) (by omega)
    · rw [if_neg k32] at hG
      refine Tm_no (fun z => k32 ((lx_k (kk := 32) h (by decide)).1 z)) ?_
      have hY' := hY _ (Option.some.inj hG).symm
      unfold gP4 at hY'
      have hY2 : pb (GS T n MD' (fu n) 0 E 0 0 q v (-1) 0 0 bt s) (fun t => pW T n 38 t.1 (fun q2 => pW T n 13 q2 (fun q3 => some (Sum.inr (q3, (E.1, [], [], 0, true, true, E.2.2.2.2.2.2), MD', nc + 1, pc + 1, v0, bRes bt0.2.2.2.2 t.2.2.2.2.1, t.2.2.2.2.2, upF F nc (Jvm.Pilot.CSetHouseLaw_law_r6264_2ea8b6.hd t.2.2.2.1, t.2.1) t.2.2.2.2.1.2.2.2.2))))) = some X := by
        rw [eE.1, eE.2]
        exact hY'
      exact c_pr4 hMD pq h zf de pv eE hnp dy l1 hb1 (by omega) hq hqp hK hY2
/-- behind the params of a proc: ) ; variables block end ; -/
theorem c_pr1 (hMD : MD' = fun p => if p = nc then md else MD p) (pq : PrQ T n b nc N N0 W s.1 E1 E0 vg v0 M np md MD E q v σ0 τ c) (k7 : tkK T n q = 7) (dy : Dy b σ0 N a1 a2 τ) (l1 : L.1 1 = nI E1.1.length) (hb1 : 1 ≤ bt.1) (bd : 2 * N + 7 * (n - q) + 110 ≤ K) (hK : K ≤ 73728) (hG : pT T n q (fun q5 => pb (gBod T n true MD' E q5 v bt s) (fun z => some (Sum.inr (z.1, (E.1, [], [], 0, true, true, E.2.2.2.2.2.2), MD', nc + 1, pc + 1, v0, bRes bt0.2.2.2.2 z.2.2.1, z.2.2.2, upF F nc z.2.1 z.2.2.1.2.2.2.2)))) = some X) : Tm (fun k => f_X5_procedure k 1 L τ) (DPo b N X (fun g _ τ' => DSt T n b N0 W K g τ') σ0 a1 a2) := by
  have pm := pq.1.1
  obtain ⟨⟨h1, h2, h3⟩, ⟨h4, h4'⟩, ⟨h5, h6, h7, h8, h9⟩, h10, ⟨g1, ⟨g2, g3, g4⟩, g5, g6⟩⟩ := pm
  have qn : q ≤ n := h1.1.2.2.2.1
  have tb1 := tkN_b T n q qn
  have gq := tb1.2.2.2 (by rw [k7]; decide)
  have tb2 := tkN_b T n (tkN T n q) tb1.2.1
  refine Tm_suc (fun k => by rw [f_X5_procedure]) ?_
  rcases pT_any hG with ⟨w1, w2⟩ | ⟨w1, w2⟩
  · rw [w2]
    exact dt_callQ (z := Sum.inl _) dy (Nat.le_refl _) (c_closesQ (kk := 7) h1 (by decide) rfl (Or.inl ⟨fun e => e.2 w1, rfl⟩)) (Or.inl ⟨_, rfl, by rw [wF_y k7]⟩)
  refine dt_callQ (z := Sum.inr _) dy (Nat.le_refl _) (c_closesQ (kk := 7) h1 (by decide) rfl (Or.inr ⟨⟨k7, w1⟩, rfl⟩)) (Or.inr ⟨_, rfl, fun τ1 ret1 n1 n2 q1 xk1 dy1 => ?_⟩)
  have w2' : pW T n 13 (tkN T n q) (fun q1 => pb (GVs T n (fu n) E q1 v bt) (gP4 T n MD' nc pc v0 bt0 F s E)) = some X := by
    rw [← w2]
    unfold gBod
    rw [if_pos rfl, pb_pW]
    refine congrArg (pW T n 13 (tkN T n q)) (funext fun q1 => ?_)
    rw [pb_pb]
    refine congrArg (pb _) (funext fun r => ?_)
    unfold gP4
    rw [pb_pb]
    refine congrArg (pb _) (funext fun t => ?_)
    rw [pb_pW]
    refine congrArg (pW T n 38 t.1) (funext fun q2 => ?_)
    rw [pb_pW]
    rfl
  rcases pW_any w2' with ⟨w3, w4⟩ | ⟨w3, w4⟩
  · rw [w4]
    exact dt_callQ (z := Sum.inl _) dy1 (Nat.le_refl _) (c_expectQ (kk := 13) q1 (by decide) rfl (Or.inl ⟨w3, rfl⟩)) (Or.inl ⟨_, rfl, rfl⟩)
  refine dt_callQ (z := Sum.inr _) dy1 (Nat.le_refl _) (c_expectQ (kk := 13) q1 (by decide) rfl (Or.inr ⟨w3, rfl⟩)) (Or.inr ⟨_, rfl, fun τ2 ret2 n3 n4 q2 xk2 dy2 => ?_⟩)
  have zk2 := ZK_t (ZK_of xk1) (ZK_of xk2) (Nat.le_refl _) (Nat.le_refl _) (Nat.le_refl _)
  have gx : ∃ x, GVs T n (fu n) E (tkN T n (tkN T n q)) v bt = some x := by
    rcases pb_any w4 with ⟨yf, z, _⟩ | ⟨t, z, _⟩
    · exact ⟨_, z⟩
    · exact ⟨_, z⟩
  obtain ⟨x, hx⟩ := gx
  rw [hx] at w4
  have tb3 := tb2.1
  refine pr_va (pc := pc) (bt0 := bt0) (F := F) hMD pq bd hK (fu n) E (tkN T n (tkN T n q)) v bt x hx (fun ye e => ?_) (fun r e => ?_) _ _ (lI L 2 0) τ2 q2 (ZF_k (ZF_k h2 xk1) xk2) h3 (PvR_Z (PvR_r b (nc + 1) τ) zk2) ⟨rfl, rfl⟩ (by omega) dy2 l1 (Nat.zero_le _) hb1 (by omega)
  · rw [e, pb_nn] at w4
    exact (Option.some.inj w4).symm
  · rw [e, pb_ss] at w4
    exact w4
/-- a proc -/
theorem c_procedure (h : DSt T n b N0 W K g σ) (hG : gCal T n true g.2.1 g.2.2.1 g.2.2.2.1 g.2.2.2.2.1 g.2.2.2.2.2.1 g.2.2.2.2.2.2.1 g.2.2.2.2.2.2.2.1 g.2.2.2.2.2.2.2.2 g.1 = some X) : Tm (fun k => f_X5_procedure k 0 L σ) (DPo b N0 X (fun h _ τ' => DSt T n b N0 W K h τ') σ 0 0) := by
  obtain ⟨c, N, vg, ⟨h1, h2, h3⟩, ⟨h4, h5, h6, h41⟩, ut, pg, ⟨eN, hN0, hcd⟩, ⟨bd1, bd2, bd3, bd4, hK⟩⟩ := h
  generalize g.2.1 = E at *
  generalize g.2.2.1 = MD at *
  generalize g.2.2.2.1 = nc at *
  generalize g.2.2.2.2.1 = pc at *
  generalize g.2.2.2.2.2.1 = v at *
  generalize g.2.2.2.2.2.2.1 = bt at *
  generalize g.2.2.2.2.2.2.2.1 = s at *
  generalize g.2.2.2.2.2.2.2.2 = F at *
  generalize g.1 = q at *
  refine Tm_mono (Q := DPo b N X (fun h _ τ' => DSt T n b N0 W K h τ') σ 0 0) ?_ (fun r z => DPo_w z hN0)
  have d0 := Dy_0 h1
  have evg : vg = v := (h3.1.2.1 rfl).2
  have j3 : fP b 3 ≠ fP b 4 := by cases b <;> decide
  have j12 : fP b 12 ≠ fP b 4 := by cases b <;> decide
  have j19 : fP b 19 ≠ fP b 4 := by cases b <;> decide
  have j8 : 4008 ≠ fP b 4 := by cases b <;> decide
  have j9 : 4009 ≠ fP b 4 := by cases b <;> decide
  have j43 : 4003 ≠ fP b 4 := by cases b <;> decide
  have j44 : 4004 ≠ fP b 4 := by cases b <;> decide
  have qn : q ≤ n := h1.1.2.2.2.1
  have t1 := tkN_b T n q qn
  have t2 := tkN_b T n _ t1.2.1
  have t3 := tkN_b T n _ t2.2.1
  refine Tm_suc (fun k => by rw [f_X5_procedure]) ?_
  rcases gCal_i hG with ⟨w1, w2⟩ | ⟨w1, w2⟩
  · rw [w2]
    exact dt_callD (z := Sum.inl _) d0 (Nat.le_refl _) (c_tellUnit (pr := true) (bt := bt) (L := lI lZ 1 2) h1 h2 h3 h6 rfl (Or.inl ⟨w1, rfl⟩)) (Or.inl ⟨_, rfl, rfl⟩)
  have n40 : nc < 40 := by have := h3.2.1.2.2.1; have := w1.2.1.2.2; omega
  refine dt_callD (z := Sum.inr ()) d0 (Nat.le_refl _) (c_tellUnit (pr := true) (bt := bt) (L := lI lZ 1 2) h1 h2 h3 h6 rfl (Or.inr ⟨w1, rfl⟩)) (Or.inr ⟨_, rfl, fun τ1 ret1 n1 n2 r1 dk1 dy1 => ?_⟩)
  obtain ⟨r1, r2, r3, r4, r5, r6, r7, r8, r9⟩ := r1
  generalize hE1 : eC1 T n true E nc (tkN T n q) bt = E1 at *
  have E1f : E1.2.2.2.2.1 = true ∧ E1.2.2.2.2.2.1 = true := by rw [← hE1]; exact ⟨rfl, rfl⟩
  have E1p : ∀ i, i < nc → E1.2.2.2.2.2.2 i = E.2.2.2.2.2.2 i := fun i hi => by rw [← hE1]; exact if_neg (by omega)
  have E1n : E1.2.2.2.2.2.2 nc = 0 := by rw [← hE1]; exact if_pos rfl
  have E1x : ∀ x, x ∈ E1.1 → x ∈ E.1 ∨ (x.2.2.2 = nc ∧ (x.2.2.1 = 2 → False) ∧ (x.2.2.1 = 3 → ¬ False)) := fun x hx => by
    rw [← hE1] at hx
    rcases List.mem_append.1 (show x ∈ E.1 ++ [(tkS T n (tkN T n q), bt.2.1, (if true = true then 3 else 2), nc)] from hx) with z | z
    · exact Or.inl z
    · rw [List.mem_singleton.1 z]
      exact Or.inr ⟨rfl, fun e => absurd (show (3 : Nat) = 2 from e) (by decide), fun _ => id⟩
  refine Tm_oP r2.2.2.2.2.1.1 ?_
  -- one proc more
  generalize hx4 : τ1.1 (fP b 4) + 1 = x4
  show Tm (fun k => if (uI τ1 (fP b 4) x4).1 3702 = 11 then f_X5_procedure k 1 (lI L 1 ret1) (uI τ1 (fP b 4) x4) else ox (f_X5_modeAndParameter k 0 (lI lZ 1 ret1) (uI τ1 (fP b 4) x4)) (fun r4 => f_X5_procedure k 2 (lI (lI L 1 ret1) 2 0) r4.2.1)) _
  have q2 := QS_ww (σ' := uI τ1 (fP b 4) x4) (u' := nc + 1) (al' := 2) (v' := 0) (p' := 0) r2 (fun j hj => uI_o (fun e => hj (Or.inr (Or.inr (Or.inr (Or.inl e)))))) rfl (fun _ _ => rfl) rfl (by rw [uI_o j43]; exact r2.2.2.2.2.1.2.1) (by rw [uI_o j44]; exact r2.2.2.2.2.1.2.2.1) r2.2.2.2.2.2.2.1.1 (Nat.zero_le _) (by rw [uI_o j19]; exact r2.2.2.2.2.2.2.2)
  have ph2 := Ph_s (σ := τ1) (σ' := uI τ1 (fP b 4) x4) rfl
  have dy2 : Dy b σ N (0 + n1) (0 + n2) (uI τ1 (fP b 4) x4) := ⟨DK_t dy1.1 q2.2 (Nat.le_refl _), by have := dy1.2.1; omega, by have := dy1.2.2; omega⟩
  have pm2 : PmS T n b nc 2 0 N s.1 0 E1 vg σ 0 E1 0 (fun _ => 0) (tkN T n (tkN T n (tkN T n q))) 0 (uI τ1 (fP b 4) x4) := ⟨⟨q2.1, ⟨r3.1, ⟨by rw [uI_o j3]; exact r3.2.1.1, r3.2.1.2⟩, by rw [uI_o j8]; exact r3.2.2.1, by rw [uI_o j9]; exact r3.2.2.2.1, r3.2.2.2.2⟩, r4⟩, ⟨rfl, Nat.zero_le _⟩, ⟨by rw [uI_o j12]; exact r5, r6, r7, r8, r9⟩, MdN_0, rfl, ⟨rfl, rfl, rfl⟩, fun _ _ => rfl, E1n⟩
  have gz : ∃ x, GPm T n true nc (fu n) E1 0 (fun _ => 0) (tkN T n (tkN T n (tkN T n q))) 0 (bKeep bt T (tkN T n q) (tkE T n (tkN T n q) - tkN T n q)) = some x := by
    rcases pb_any w2 with ⟨yf, z, _⟩ | ⟨t, z, _⟩
    · exact ⟨_, z⟩
    · exact ⟨_, z⟩
  obtain ⟨x, hx⟩ := gz
  rw [hx] at w2
  have h16 : σ.2.2.1 (pR16 b) 0 = nI v ∧ v ≤ 60 := h1.2.2.2.2.2.2.1
  have Kq : PmK T n b nc 2 N s.1 E1 vg q 1 σ X (fun h _ τ' => DSt T n b N0 W K h τ') f_X5_procedure x := by
    refine ⟨fun ye e => ?_, fun a e M a1 a2 L' τ' dy pm k7 l1 hq hb => ?_⟩
    · rw [e, pb_nn] at w2
      exact (Option.some.inj w2).symm
    · rw [e, pb_ss] at w2
      have bq : 2 * N + 7 * (n - a.1) + 110 ≤ K := by omega
      have pq : PrQ T n b nc N N0 W s.1 E1 E vg v M a.2.2.1 a.2.2.2.1 MD a.2.1 a.1 a.2.2.2.2.1 σ τ' c := ⟨⟨pm, pg, ut⟩, ⟨eN, hN0, hcd⟩, n40, ⟨h16, h2.1, evg, h41⟩, E1p, E1x, E1f, bd3, bd4⟩
      exact c_pr1 (E := a.2.1) (bt := a.2.2.2.2.2) (bt0 := bt) (pc := pc) (F := F) (MD := MD) (md := a.2.2.2.1) rfl pq k7 dy l1 hb bq hK w2
  rw [fu_s] at hx
  rw [GPm, if_pos rfl] at hx
  have e10 : (lI L 1 ret1).1 1 = nI E1.1.length := r1
  by_cases k7 : tkK T n (tkN T n (tkN T n (tkN T n q))) = 7
  · rw [if_pos k7] at hx
    refine Tm_yes ((lx_k (kk := 7) q2.1 (by decide)).2 k7) ?_
    exact Kq.2 _ (Option.some.inj hx).symm 0 _ _ (lI L 1 ret1) _ dy2 pm2 k7 e10 (by show q ≤ _; omega) bd2
  · rw [if_neg k7] at hx
    refine Tm_no (fun z => k7 ((lx_k (kk := 7) q2.1 (by decide)).1 z)) ?_
    exact pr_pm (L2 := lI (lI L 1 ret1) 2 0) (by omega) (pr_lp (by omega) _) hx Kq dy2 pm2 (by omega) bd2 r1 r1 (Nat.zero_le _)
end DYL
end JnS534
