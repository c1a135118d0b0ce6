/-! The class: calls of funcs and long rows, typed. -/
section CUU
variable {c c' c1 c2 : Ct} {O O' H H' : Nat → Prop} {u nu nu' pc ln R R' p d rk k op w n m m' q t t' : Nat} {r pre ms ms' : List Nat} {x v : Int32} {Vm : Nat → Prop} {cs ins o as : List Int32} {gl : Nat × (Nat → Nat → Prop)} {C : Nat → Int32} {y : Nat × Nat × List Nat × Nat}
/-- one place more -/
def up1 (c : Ct) (ln : Nat) (y : Nat × Nat × List Nat × Nat) : Nat → Option (Nat × Nat × List Nat × Nat) := fun q => if q = tcN c + ln then some y else tcD c q
theorem up1_e : up1 c ln y (tcN c + ln) = some y := if_pos rfl
theorem up1_o (h : ¬ q = tcN c + ln) : up1 c ln y q = tcD c q := if_neg h
theorem up1_d (t : TI O H nu R c) (l1 : 1 ≤ ln) {z : Nat × Nat × List Nat × Nat} (h : tcD c q = some z) : up1 c ln y q = some z := by
  rw [up1_o (fun e => by rw [e, t.2.2.2.1 _ (by omega)] at h; cases h)]; exact h
theorem TI_s1 (t : TI O H nu R c) (no : ¬ O (tcN c)) (l1 : 1 ≤ ln) (hN : tcN c + ln ≤ 36864) (hC1 : ∀ i, i < tcN c → C i = tcC c i) (ok : ∀ x, tcD c (tcN c) = some x → OKq O (x.1 % 100) nu (mkc c C (tcN c + ln) (up1 c ln y)) (tcN c) ln R) (hR : R' ≤ R) : TI O H nu R' (mkc c C (tcN c + ln) (up1 c ln y)) := TI_em (ln := ln) (y := some y) (Hn := False) (On := False) t l1 hN hC1 rfl ⟨⟨rfl, rfl⟩, rfl, rfl⟩ (fun q => rfl) (fun q => ⟨Or.inl, fun z => z.elim id (fun w => w.2.elim)⟩) (fun z => z.elim) (fun q => ⟨Or.inl, fun z => z.elim id (fun w => w.2.elim)⟩) (fun o => no o) (fun _ x e => ok x e) hR
theorem sh_pam {K : Nat → Option Int32} {pb : Nat} : ∀ pre : List Nat, (∀ e, e ∈ pre → e < bsl) → (∀ i, i ∈ ms → bsl ≤ i → (i - bsl) % 500000 < p) → PaM K pb 180 (sh pre w ms) → PaM K pb p (sh pre w ms)
  | [], _, h, z => ⟨fun c i h1 h2 => ⟨h i h1 h2, (z.1 c i h1 h2).2⟩, fun c => absurd (Nat.le_add_right _ _) c⟩
  | e :: pre, hp, h, z => ⟨fun c => absurd c (by have := hp e List.mem_cons_self; omega), fun c => sh_pam pre (fun i hi => hp i (List.mem_cons_of_mem _ hi)) h (z.2 c)⟩
theorem pre_c (hp : ∀ e, e ∈ pre → e < bsl) {e0 : Nat} (h : e0 < bsl) : ∀ e, e ∈ e0 :: pre → e < bsl := fun e he => by
  rcases List.mem_cons.1 he with z | z
  · rw [z]; exact h
  · exact hp e z
/-- f ( .. ) -/
theorem Sgm_ca {vv dep : Nat} (hf : gl.2 vv n) (hdp : dep < 256) (h : Sgm u p gl Vm n as) : Sgm u p gl Vm 1 (em 16 0 :: (as ++ [em 17 (nI vv), em dep (nI p)])) := by
  obtain ⟨l1, h1⟩ := h
  have el : (em 16 0 :: (as ++ [em 17 (nI vv), em dep (nI p)])).length = as.length + 3 := by rw [List.length_cons, List.length_append]; rfl
  refine ⟨by rw [el]; omega, fun O H nu R c d pre w ms C ti no hD hp cn hR1 hR2 hd hN hC1 hC2 => ?_⟩
  rw [el] at hR1 hd hN hC2 ⊢
  have nO := noO_ge ti no
  have rk40 : RK = 40000 := rfl
  have bs : bsl = 1000000 := rfl
  obtain ⟨f1, f2, f3, f4⟩ := cn.2.2.2.1.2 vv n hf
  obtain ⟨g1, g2, g3, g4, rkE, g5, g6⟩ := cn.2.2.2.2.2.2.2 vv f1 f2 f3
  have c0 : C (tcN c) = em 16 0 := hC2 0 (by omega)
  have cA : ∀ i, i < as.length → C (tcN c + 1 + i) = as.getD i 0 := fun i hi => by
    have z := hC2 (i + 1) (by omega)
    rw [show tcN c + 1 + i = tcN c + (i + 1) from by omega, z]
    exact gd_l hi
  have cB : C (tcN c + 1 + as.length) = em 17 (nI vv) := by
    have z := hC2 (as.length + 0 + 1) (by omega)
    rw [show tcN c + 1 + as.length = tcN c + (as.length + 0 + 1) from by omega, z]
    exact gd_r 0
  have cC : C (tcN c + 1 + as.length + 1) = em dep (nI p) := by
    have z := hC2 (as.length + 1 + 1) (by omega)
    rw [show tcN c + 1 + as.length + 1 = tcN c + (as.length + 1 + 1) from by omega, z]
    exact gd_r 1
  have hp1 := pre_c (e0 := 250000 + d) hp (by omega)
  have dU1 : ∀ q y', tcD c q = some y' → up1 c 1 (u, 0, sh ((250000 + d) :: pre) w ms, R - 1) q = some y' := fun q y' e => up1_d ti (Nat.le_refl _) e
  have t1 : TI O H nu (R - 1) (mkc c C (tcN c + 1) (up1 c 1 (u, 0, sh ((250000 + d) :: pre) w ms, R - 1))) := TI_s1 ti no (Nat.le_refl _) (by omega) hC1 (fun y ey => by
    rw [hD] at ey
    cases ey
    exact OKq_of (op := 16) (x := 0) (dU1 _ _ hD) no cn.2.1 (Nat.le_refl _) (by omega) (by decide) (Nat.le_refl _) (by show C (tcN c) &&& 255 = _; rw [c0]; exact em_lo (by decide)) (by show C (tcN c) >>> ((8 : Int32) &&& 31) = _; rw [c0]; exact em_hi (by decide) Sm3_0) (fun c' a hc ro => OKI_7 (by decide) ⟨fun z => absurd z (by decide), ⟨fun _ => by
      obtain ⟨e0, s0, es⟩ := sh_ne (w := w) (ms := ms) pre
      exact ⟨e0, s0, es, by omega, it_N a (CnC_k cn dU1) hp1 up1_e (nO _ (by omega)) (by omega)⟩, fun z => absurd z (by decide), fun z => absurd z (by decide), fun z => absurd z (by decide), fun z => absurd z (by decide), fun z => absurd z (by decide), fun z => absurd z (by decide), fun z => absurd z (by decide), fun z => absurd z (by decide)⟩⟩)) (by omega)
  obtain ⟨D2, t2, e2, k2⟩ := h1 O H nu (R - 1) (mkc c C (tcN c + 1) (up1 c 1 (u, 0, sh ((250000 + d) :: pre) w ms, R - 1))) 0 ((250000 + d) :: pre) w ms C t1 (nO _ (by show tcN c ≤ tcN c + 1; omega)) up1_e hp1 (CnC_k cn dU1) (by omega) (by omega) (by omega) (by show tcN c + 1 + as.length ≤ _; omega) (fun _ _ => rfl) (fun i hi => cA i hi)
  have k2' : D2 (tcN c + 1 + as.length) = some (u, 0 + n, sh ((250000 + d) :: pre) w ms, R - 1 - as.length) := k2
  have t2' : TI O H nu (R - 1 - as.length) (mkc c C (tcN c + 1 + as.length) D2) := t2
  have dU2 : ∀ q y', tcD c q = some y' → D2 q = some y' := fun q y' e => dd_of t1 e2 q y' (dU1 q y' e)
  have dU3 : ∀ q y', D2 q = some y' → up1 (mkc c C (tcN c + 1 + as.length) D2) 2 (u, d + 1, sh pre w ms, R - (as.length + 3)) q = some y' := fun q y' e => up1_d t2' (by decide) e
  have cn3 : CnC O u p gl Vm nu (mkc c C (tcN c + 1 + as.length + 2) (up1 (mkc c C (tcN c + 1 + as.length) D2) 2 (u, d + 1, sh pre w ms, R - (as.length + 3)))) w ms := CnC_k cn (fun q y' e => dU3 q y' (dU2 q y' e))
  have t3 : TI O H nu (R - (as.length + 3)) (mkc c C (tcN c + 1 + as.length + 2) (up1 (mkc c C (tcN c + 1 + as.length) D2) 2 (u, d + 1, sh pre w ms, R - (as.length + 3)))) := TI_s1 (c := mkc c C (tcN c + 1 + as.length) D2) t2' (nO _ (by show tcN c ≤ tcN c + 1 + as.length; omega)) (by decide) (by show tcN c + 1 + as.length + 2 ≤ _; omega) (fun _ _ => rfl) (fun y ey => by
    have ey' : D2 (tcN c + 1 + as.length) = some y := ey
    rw [k2'] at ey'
    cases ey'
    refine OKq_of (op := 17) (x := nI vv) (dU3 _ _ k2') (nO _ (by show tcN c ≤ tcN c + 1 + as.length; omega)) cn.2.1 (by show tcN c + 1 + as.length + 1 ≤ tcN c + 1 + as.length + 2; omega) (by omega) (by decide) (by decide) (by show C (tcN c + 1 + as.length) &&& 255 = _; rw [cB]; exact em_lo (by decide)) (by show C (tcN c + 1 + as.length) >>> ((8 : Int32) &&& 31) = _; rw [cB]; exact em_hi (by decide) (Sm3_n (by omega))) (fun c' a hc ro => OKI_7 (by decide) ⟨fun _ => ?_, ⟨fun z => absurd z (by decide), fun _ => ?_, fun z => absurd z (by decide), fun z => absurd z (by decide), fun z => absurd z (by decide), fun z => absurd z (by decide), fun z => absurd z (by decide), fun z => absurd z (by decide), fun z => absurd z (by decide)⟩⟩)
    · have n1 : tcN c + 1 + as.length + 2 ≤ tcN c' := a.1
      show tcN c + 1 + as.length + 1 < tcN c'
      omega
    · have cw : tcC c' (tcN c + 1 + as.length + 1) >>> ((8 : Int32) &&& 31) = nI p := by
        have p180 := cn.2.2.2.2.1
        rw [(hc (tcN c + 1 + as.length + 1) (by show tcN c + 1 + as.length ≤ _; omega) (by show _ < tcN c + 1 + as.length + 2; omega)).trans cC]
        exact em_hi hdp (Sm3_n (by omega))
      have p180 := cn.2.2.2.2.1
      have tb := a.2.1 vv (Or.inl ⟨f1, f2⟩)
      have tbE : tcE c' vv = tcE c vv := tb.1
      have tbP : tcP c' vv = tcP c vv := tb.2.1
      have tbF : tcF c' vv = tcF c vv := tb.2.2
      have kE : tcD c' (tcE c vv) = some (vv, 0, (bsl + tcF c vv) :: Vl (tcF c vv), rkE) := (a.2.2.2.2 _ _ (dU3 _ _ (dU2 _ _ g6))).1 g4
      refine ⟨vv, d, sh pre w ms, ⟨rfl, g1, (a.2.2.1 vv (Or.inl f2)).2 f3⟩, ⟨by rw [tbP, f4]; omega, rfl, by omega⟩, by rw [tF_of a cn.1, sh_bt pre _ hp]; exact cn.2.2.1, by rw [tbP, tbF]; exact ⟨g2, g3⟩, ?_, ?_, ?_, ?_⟩
      · show uN (tcC c' (tcN c + 1 + as.length + 1) >>> ((8 : Int32) &&& 31)) ≤ 180
        rw [cw, u_n (by omega)]; exact p180
      · intro K pb z
        show PaM K pb (uN (tcC c' (tcN c + 1 + as.length + 1) >>> ((8 : Int32) &&& 31))) _
        rw [cw, u_n (by omega)]
        exact sh_pam pre hp cn.2.2.2.2.2.1 z
      · exact nxR_of a cn3.1 up1_e (nO _ (by show tcN c ≤ tcN c + 1 + as.length + 2; omega)) (by rw [sh_bt pre _ hp]; exact cn.2.2.1) (by omega)
      · rw [tbE, tbF]
        refine ⟨rkE, kE, g5, ?_⟩
        rw [tbF]
        show tcF c vv ≤ (if bsl ≤ bsl + tcF c vv then bsl + tcF c vv - bsl else _)
        rw [if_pos (Nat.le_add_right _ _)]; omega) (by omega)
  refine ⟨up1 (mkc c C (tcN c + 1 + as.length) D2) 2 (u, d + 1, sh pre w ms, R - (as.length + 3)), ?_, fun q hq => ?_, ?_⟩
  · rw [show tcN c + (as.length + 3) = tcN c + 1 + as.length + 2 from by omega]; exact t3
  · rw [up1_o (by show ¬ q = tcN c + 1 + as.length + 2; omega)]
    show D2 q = _
    rw [e2 q (by show q ≤ tcN c + 1; omega)]
    exact up1_o (by omega)
  · rw [show tcN c + (as.length + 3) = tcN c + 1 + as.length + 2 from by omega]; exact up1_e
/-- members are gathered, the first of them upon the stack: f = 1 for sets -/
def Gth (u p : Nat) (gl : Nat × (Nat → Nat → Prop)) (Vm : Nat → Prop) (f : Nat) (cs : List Int32) : Prop := f < 2 ∧ 1 ≤ cs.length ∧ ∀ (O H : Nat → Prop) (nu R : Nat) (c : Ct) (d : Nat) (pre : List Nat) (w : Nat) (ms : List Nat) (C : Nat → Int32), TI O H nu R c → ¬ O (tcN c) → tcD c (tcN c) = some (u, d, sh pre w ms, R) → (∀ e, e ∈ pre → e < bsl) → CnC O u p gl Vm nu c w ms → 1000 + cs.length ≤ R → R ≤ RK → d + cs.length ≤ 100000 → tcN c + cs.length ≤ 36864 → (∀ i, i < tcN c → C i = tcC c i) → (∀ i, i < cs.length → C (tcN c + i) = cs.getD i 0) → ∃ D, TI O H nu (R - cs.length) (mkc c C (tcN c + cs.length) D) ∧ (∀ q, q ≤ tcN c → D q = tcD c q) ∧ D (tcN c + cs.length) = some (u, 0, sh ((2 * d + f) :: pre) w ms, R - cs.length)
theorem Gth_jn (hf : op = 85 ∧ t = 1 ∨ op = 86 ∧ t = 0) (hn : 1 ≤ n ∧ n < 100000) (h : Sgm u p gl Vm n cs) : Gth u p gl Vm t (cs ++ [em op (nI n)]) := by
  obtain ⟨l1, h1⟩ := h
  have el : (cs ++ [em op (nI n)]).length = cs.length + 1 := by rw [List.length_append]; rfl
  refine ⟨by omega, by rw [el]; omega, fun O H nu R c d pre w ms C ti no hD hp cn hR1 hR2 hd hN hC1 hC2 => ?_⟩
  rw [el] at hR1 hd hN hC2 ⊢
  have nO := noO_ge ti no
  have rk40 : RK = 40000 := rfl
  have bs : bsl = 1000000 := rfl
  obtain ⟨D1, t1, e1, f1⟩ := h1 O H nu R c d pre w ms C ti no hD hp cn (by omega) hR2 (by omega) (by omega) hC1 (fun i hi => by rw [hC2 i (by omega), gd_l hi])
  have cA : C (tcN c + cs.length) = em op (nI n) := by
    have z := hC2 (cs.length + 0) (by omega)
    rw [gd_r] at z; exact z
  have hp1 := pre_c (e0 := 2 * d + t) hp (by omega)
  have dU1 : ∀ q y', tcD c q = some y' → D1 q = some y' := dd_of ti e1
  have dU2 : ∀ q y', D1 q = some y' → up1 (mkc c C (tcN c + cs.length) D1) 1 (u, 0, sh ((2 * d + t) :: pre) w ms, R - (cs.length + 1)) q = some y' := fun q y' e => up1_d t1 (Nat.le_refl _) e
  have cn3 : CnC O u p gl Vm nu (mkc c C (tcN c + cs.length + 1) (up1 (mkc c C (tcN c + cs.length) D1) 1 (u, 0, sh ((2 * d + t) :: pre) w ms, R - (cs.length + 1)))) w ms := CnC_k cn (fun q y' e => dU2 q y' (dU1 q y' e))
  have t3 : TI O H nu (R - (cs.length + 1)) (mkc c C (tcN c + cs.length + 1) (up1 (mkc c C (tcN c + cs.length) D1) 1 (u, 0, sh ((2 * d + t) :: pre) w ms, R - (cs.length + 1)))) := TI_s1 (c := mkc c C (tcN c + cs.length) D1) t1 (nO _ (by show tcN c ≤ tcN c + cs.length; omega)) (Nat.le_refl _) (by show tcN c + cs.length + 1 ≤ _; omega) (fun _ _ => rfl) (fun y ey => by
    have ey' : D1 (tcN c + cs.length) = some y := ey
    rw [f1] at ey'
    cases ey'
    refine OKq_of (op := op) (x := nI n) (dU2 _ _ f1) (nO _ (by show tcN c ≤ tcN c + cs.length; omega)) cn.2.1 (Nat.le_refl _) (by omega) (by omega) (Nat.le_refl _) (by show C (tcN c + cs.length) &&& 255 = _; rw [cA]; exact em_lo (by omega)) (by show C (tcN c + cs.length) >>> ((8 : Int32) &&& 31) = _; rw [cA]; exact em_hi (by omega) (Sm3_n (by omega))) (fun c' a hc ro => OKI_5 ⟨by omega, by omega⟩ ?_)
    have nx : Nx c' (tcN c + cs.length + 1) u 0 (sh ((2 * d + t) :: pre) w ms) (R - cs.length) := it_N (R' := R - (cs.length + 1)) a cn3 hp1 (up1_e (c := mkc c C (tcN c + cs.length) D1) (ln := 1)) (nO _ (by show tcN c ≤ tcN c + cs.length + 1; omega)) (by omega)
    have tf : ∀ n', tcF c' u ≤ bt (d + n') (sh pre w ms) := fun n' => by rw [tF_of a cn.1, sh_bt pre _ hp]; exact cn.2.2.1
    rcases hf with ⟨hf, ht⟩ | ⟨hf, ht⟩
    · subst hf
      exact ⟨fun z => absurd z (by decide), fun z => absurd z (by decide), fun z => absurd z (by decide), fun z => absurd z (by decide), fun _ => ⟨d, n, t, rfl, u_n (by omega), hn.1, by omega, by omega, tf, nx⟩, fun z => absurd z (by decide)⟩
    · subst hf
      exact ⟨fun z => absurd z (by decide), fun z => absurd z (by decide), fun z => absurd z (by decide), fun z => absurd z (by decide), fun z => absurd z (by decide), fun _ => ⟨d, n, t, rfl, u_n (by omega), hn.1, by omega, by omega, nx⟩⟩) (by omega)
  refine ⟨up1 (mkc c C (tcN c + cs.length) D1) 1 (u, 0, sh ((2 * d + t) :: pre) w ms, R - (cs.length + 1)), ?_, fun q hq => ?_, ?_⟩
  · rw [← Nat.add_assoc]; exact t3
  · rw [up1_o (by show ¬ q = tcN c + cs.length + 1; omega)]; exact e1 q hq
  · rw [← Nat.add_assoc]; exact up1_e
/-- one more is gathered -/
theorem Gth_ga (hf : op = 81 ∧ t = 1 ∨ op = 82 ∧ t = 0) (hx : Sm3 x) (g : Gth u p gl Vm t cs) (h : Sgm u p gl Vm 1 o) : Gth u p gl Vm t (cs ++ (o ++ [em op x])) := by
  obtain ⟨g1, g2, g3⟩ := g
  obtain ⟨l1, h1⟩ := h
  have el : (cs ++ (o ++ [em op x])).length = cs.length + (o.length + 1) := by rw [List.length_append, List.length_append]; rfl
  refine ⟨g1, by rw [el]; omega, fun O H nu R c d pre w ms C ti no hD hp cn hR1 hR2 hd hN hC1 hC2 => ?_⟩
  rw [el] at hR1 hd hN hC2 ⊢
  have nO := noO_ge ti no
  have rk40 : RK = 40000 := rfl
  have bs : bsl = 1000000 := rfl
  obtain ⟨D1, t1, e1, f1⟩ := g3 O H nu R c d pre w ms C ti no hD hp cn (by omega) hR2 (by omega) (by omega) hC1 (fun i hi => by rw [hC2 i (by omega), gd_l hi])
  have hp1 := pre_c (e0 := 2 * d + t) hp (by omega)
  have dU1 : ∀ q y', tcD c q = some y' → D1 q = some y' := dd_of ti e1
  obtain ⟨D2, t2, e2, f2⟩ := h1 O H nu (R - cs.length) (mkc c C (tcN c + cs.length) D1) 0 ((2 * d + t) :: pre) w ms C t1 (nO _ (by show tcN c ≤ tcN c + cs.length; omega)) f1 hp1 (CnC_k cn dU1) (by omega) (by omega) (by omega) (by show tcN c + cs.length + o.length ≤ _; omega) (fun _ _ => rfl) (fun i hi => by
    show C (tcN c + cs.length + i) = _
    rw [Nat.add_assoc, hC2 _ (by omega), gd_r, gd_l hi])
  have t2' : TI O H nu (R - cs.length - o.length) (mkc c C (tcN c + cs.length + o.length) D2) := t2
  have f2' : D2 (tcN c + cs.length + o.length) = some (u, 0 + 1, sh ((2 * d + t) :: pre) w ms, R - cs.length - o.length) := f2
  have cA : C (tcN c + cs.length + o.length) = em op x := by
    have z := hC2 (cs.length + (o.length + 0)) (by omega)
    rw [gd_r, gd_r] at z
    rw [Nat.add_assoc]; exact z
  have dU2 : ∀ q y', tcD c q = some y' → D2 q = some y' := fun q y' e => dd_of t1 e2 q y' (dU1 q y' e)
  have dU3 : ∀ q y', D2 q = some y' → up1 (mkc c C (tcN c + cs.length + o.length) D2) 1 (u, 0, sh ((2 * d + t) :: pre) w ms, R - (cs.length + (o.length + 1))) q = some y' := fun q y' e => up1_d t2' (Nat.le_refl _) e
  have cn3 : CnC O u p gl Vm nu (mkc c C (tcN c + cs.length + o.length + 1) (up1 (mkc c C (tcN c + cs.length + o.length) D2) 1 (u, 0, sh ((2 * d + t) :: pre) w ms, R - (cs.length + (o.length + 1))))) w ms := CnC_k cn (fun q y' e => dU3 q y' (dU2 q y' e))
  have t3 : TI O H nu (R - (cs.length + (o.length + 1))) (mkc c C (tcN c + cs.length + o.length + 1) (up1 (mkc c C (tcN c + cs.length + o.length) D2) 1 (u, 0, sh ((2 * d + t) :: pre) w ms, R - (cs.length + (o.length + 1))))) := TI_s1 (c := mkc c C (tcN c + cs.length + o.length) D2) t2' (nO _ (by show tcN c ≤ tcN c + cs.length + o.length; omega)) (Nat.le_refl _) (by show tcN c + cs.length + o.length + 1 ≤ _; omega) (fun _ _ => rfl) (fun y ey => by
    have ey' : D2 (tcN c + cs.length + o.length) = some y := ey
    rw [f2'] at ey'
    cases ey'
    refine OKq_of (op := op) (x := x) (dU3 _ _ f2') (nO _ (by show tcN c ≤ tcN c + cs.length + o.length; omega)) cn.2.1 (Nat.le_refl _) (by omega) (by omega) (Nat.le_refl _) (by show C (tcN c + cs.length + o.length) &&& 255 = _; rw [cA]; exact em_lo (by omega)) (by show C (tcN c + cs.length + o.length) >>> ((8 : Int32) &&& 31) = _; rw [cA]; exact em_hi (by omega) hx) (fun c' a hc ro => OKI_5 ⟨by omega, by omega⟩ ?_)
    have nx : Nx c' (tcN c + cs.length + o.length + 1) u 0 (sh ((2 * d + t) :: pre) w ms) (R - cs.length - o.length) := it_N (R' := R - (cs.length + (o.length + 1))) a cn3 hp1 (up1_e (c := mkc c C (tcN c + cs.length + o.length) D2) (ln := 1)) (nO _ (by show tcN c ≤ tcN c + cs.length + o.length + 1; omega)) (by omega)
    rcases hf with ⟨hf, ht⟩ | ⟨hf, ht⟩
    · subst hf
      exact ⟨fun z => absurd z (by decide), fun _ => ⟨2 * d + t, sh pre w ms, rfl, rfl, by omega, by omega, nx⟩, fun z => absurd z (by decide), fun z => absurd z (by decide), fun z => absurd z (by decide), fun z => absurd z (by decide)⟩
    · subst hf
      exact ⟨fun z => absurd z (by decide), fun z => absurd z (by decide), fun _ => ⟨2 * d + t, sh pre w ms, rfl, rfl, by omega, by omega, nx⟩, fun z => absurd z (by decide), fun z => absurd z (by decide), fun z => absurd z (by decide)⟩) (by omega)
  refine ⟨up1 (mkc c C (tcN c + cs.length + o.length) D2) 1 (u, 0, sh ((2 * d + t) :: pre) w ms, R - (cs.length + (o.length + 1))), ?_, fun q hq => ?_, ?_⟩
  · rw [show tcN c + (cs.length + (o.length + 1)) = tcN c + cs.length + o.length + 1 from by omega]; exact t3
  · rw [up1_o (by show ¬ q = tcN c + cs.length + o.length + 1; omega)]
    show D2 q = _
    rw [e2 q (by show q ≤ tcN c + cs.length; omega)]; exact e1 q hq
  · rw [show tcN c + (cs.length + (o.length + 1)) = tcN c + cs.length + o.length + 1 from by omega]; exact up1_e
/-- what is gathered becomes one -/
theorem Sgm_gd (ho : op = 83 ∨ op = 84) (hx : Sm3 x) (g : Gth u p gl Vm t cs) : Sgm u p gl Vm 1 (cs ++ [em op x]) := by
  obtain ⟨g1, g2, g3⟩ := g
  have el : (cs ++ [em op x]).length = cs.length + 1 := by rw [List.length_append]; rfl
  refine ⟨by rw [el]; omega, fun O H nu R c d pre w ms C ti no hD hp cn hR1 hR2 hd hN hC1 hC2 => ?_⟩
  rw [el] at hR1 hd hN hC2 ⊢
  have nO := noO_ge ti no
  have rk40 : RK = 40000 := rfl
  have bs : bsl = 1000000 := rfl
  obtain ⟨D1, t1, e1, f1⟩ := g3 O H nu R c d pre w ms C ti no hD hp cn (by omega) hR2 (by omega) (by omega) hC1 (fun i hi => by rw [hC2 i (by omega), gd_l hi])
  have cA : C (tcN c + cs.length) = em op x := by
    have z := hC2 (cs.length + 0) (by omega)
    rw [gd_r] at z; exact z
  have dU1 : ∀ q y', tcD c q = some y' → D1 q = some y' := dd_of ti e1
  have dU2 : ∀ q y', D1 q = some y' → up1 (mkc c C (tcN c + cs.length) D1) 1 (u, d + 1, sh pre w ms, R - (cs.length + 1)) q = some y' := fun q y' e => up1_d t1 (Nat.le_refl _) e
  have cn3 : CnC O u p gl Vm nu (mkc c C (tcN c + cs.length + 1) (up1 (mkc c C (tcN c + cs.length) D1) 1 (u, d + 1, sh pre w ms, R - (cs.length + 1)))) w ms := CnC_k cn (fun q y' e => dU2 q y' (dU1 q y' e))
  have t3 : TI O H nu (R - (cs.length + 1)) (mkc c C (tcN c + cs.length + 1) (up1 (mkc c C (tcN c + cs.length) D1) 1 (u, d + 1, sh pre w ms, R - (cs.length + 1)))) := TI_s1 (c := mkc c C (tcN c + cs.length) D1) t1 (nO _ (by show tcN c ≤ tcN c + cs.length; omega)) (Nat.le_refl _) (by show tcN c + cs.length + 1 ≤ _; omega) (fun _ _ => rfl) (fun y ey => by
    have ey' : D1 (tcN c + cs.length) = some y := ey
    rw [f1] at ey'
    cases ey'
    refine OKq_of (op := op) (x := x) (dU2 _ _ f1) (nO _ (by show tcN c ≤ tcN c + cs.length; omega)) cn.2.1 (Nat.le_refl _) (by omega) (by omega) (Nat.le_refl _) (by show C (tcN c + cs.length) &&& 255 = _; rw [cA]; exact em_lo (by omega)) (by show C (tcN c + cs.length) >>> ((8 : Int32) &&& 31) = _; rw [cA]; exact em_hi (by omega) hx) (fun c' a hc ro => OKI_5 ⟨by omega, by omega⟩ ⟨fun z => absurd z (by omega), fun z => absurd z (by omega), fun z => absurd z (by omega), fun _ => ⟨2 * d + t, sh pre w ms, rfl, rfl, by omega, ?_⟩, fun z => absurd z (by omega), fun z => absurd z (by omega)⟩)
    rw [show (2 * d + t) / 2 + 1 = d + 1 from by omega]
    exact it_S a cn3 hp up1_e (nO _ (by show tcN c ≤ tcN c + cs.length + 1; omega)) (by omega)) (by omega)
  refine ⟨up1 (mkc c C (tcN c + cs.length) D1) 1 (u, d + 1, sh pre w ms, R - (cs.length + 1)), ?_, fun q hq => ?_, ?_⟩
  · rw [← Nat.add_assoc]; exact t3
  · rw [up1_o (by show ¬ q = tcN c + cs.length + 1; omega)]; exact e1 q hq
  · rw [← Nat.add_assoc]; exact up1_e
end CUU
