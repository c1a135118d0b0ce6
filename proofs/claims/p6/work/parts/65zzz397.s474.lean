/-! The class: calls of procs, takings, holes, typed. -/
section CWH
variable {c c' c1 c2 : Ct} {O O' H H' : Nat → Prop} {u nu nu' pc ln R R' re p d rk k op w n m m' q t x y x1 x2 g s D np vv way i : Nat} {r pre ms ms' : List Nat} {x0 v : Int32} {Vm : Nat → Prop} {Pc : Nat → Nat → Prop} {cs ins a b tl o as W : List Int32} {gl : Nat × (Nat → Nat → Prop)} {C : Nat → Int32} {ks : List Nat}
/-- a call of a proc: behind it its value and its params -/
theorem Sst_cp (hP : Pc vv np) (h : Sgm u 0 gl Vm np as) : Sst u gl Pc Vm [] 2 0 (1 + np) (em 16 0 :: (as ++ [em 19 (nI vv)])) := by
  obtain ⟨l1, h1⟩ := h
  have el : (em 16 0 :: (as ++ [em 19 (nI vv)])).length = as.length + 2 := by rw [List.length_cons, List.length_append]; rfl
  intro O H nu R c w ms C ti no hD cn hp hR1 hR2 hd hN hC1 hC2
  rw [el] at hR1 hd hN hC2 ⊢
  have rk40 : RK = 40000 := rfl
  have bs : bsl = 1000000 := rfl
  obtain ⟨⟨f1, f2, f3⟩, f4, f5, f6, f7, rkE, f8, f9⟩ := cn.2.2.2.2 vv np hP
  have c0 : C (tcN c) = em 16 0 := hC2 0 (by omega)
  have cA : ∀ i, i < as.length → C (tcN c + 1 + i) = as.getD i 0 := fun i hi => by
    have z := hC2 (i + 1) (by omega)
    rw [show tcN c + 1 + i = tcN c + (i + 1) from by omega, z]
    exact gd_l hi
  have cB : C (tcN c + 1 + as.length) = em 19 (nI vv) := by
    have z := hC2 (as.length + 0 + 1) (by omega)
    rw [show tcN c + 1 + as.length = tcN c + (as.length + 0 + 1) from by omega, z]
    exact gd_r 0
  have hp1 : ∀ e, e ∈ [250000 + 0] → e < bsl := pre_c (e0 := 250000 + 0) nilp (by omega)
  have dU1 : ∀ q y', tcD c q = some y' → up1 c 1 (u, 0, sh [250000 + 0] w ms, R - 1) q = some y' := fun q y' e => up1_d ti (Nat.le_refl _) e
  have t1 : TI O H nu (R - 1) (mkc c C (tcN c + 1) (up1 c 1 (u, 0, sh [250000 + 0] w ms, R - 1))) := TI_s1 ti (no _ (Nat.le_refl _)) (Nat.le_refl _) (by omega) hC1 (fun y ey => by
    rw [hD] at ey
    cases ey
    exact OKq_of (op := 16) (x := 0) (dU1 _ _ hD) (no _ (Nat.le_refl _)) cn.1.2.1 (Nat.le_refl _) (by omega) (by decide) (Nat.le_refl _) (by show C (tcN c) &&& 255 = _; rw [c0]; exact em_lo (by decide)) (by show C (tcN c) >>> ((8 : Int32) &&& 31) = _; rw [c0]; exact em_hi (by decide) Sm3_0) (fun c' a hc ro => OKI_7 (by decide) ⟨fun z => absurd z (by decide), ⟨fun _ => ⟨bsl + w, ms, rfl, by omega, it_N (pre := [250000 + 0]) a (CnC_k cn.1 dU1) hp1 up1_e (no _ (by omega)) (by omega)⟩, fun z => absurd z (by decide), fun z => absurd z (by decide), fun z => absurd z (by decide), fun z => absurd z (by decide), fun z => absurd z (by decide), fun z => absurd z (by decide), fun z => absurd z (by omega), fun z => absurd z (by decide)⟩⟩)) (by omega)
  obtain ⟨D2, t2, e2, k2⟩ := h1 O H nu (R - 1) (mkc c C (tcN c + 1) (up1 c 1 (u, 0, sh [250000 + 0] w ms, R - 1))) 0 [250000 + 0] w ms C t1 (no _ (by show tcN c ≤ tcN c + 1; omega)) up1_e hp1 (CnC_k cn.1 dU1) (by omega) (by omega) (by omega) (by show tcN c + 1 + as.length ≤ _; omega) (fun _ _ => rfl) (fun i hi => cA i hi)
  have k2' : D2 (tcN c + 1 + as.length) = some (u, 0 + np, sh [250000 + 0] w ms, R - 1 - as.length) := k2
  have t2' : TI O H nu (R - 1 - as.length) (mkc c C (tcN c + 1 + as.length) D2) := t2
  have dU2 : ∀ q y', tcD c q = some y' → D2 q = some y' := fun q y' e => dd_of t1 e2 q y' (dU1 q y' e)
  have dU3 : ∀ q y', D2 q = some y' → up1 (mkc c C (tcN c + 1 + as.length) D2) 1 (u, 1 + np, sh [] w ms, R - (as.length + 2) - 2) q = some y' := fun q y' e => up1_d t2' (Nat.le_refl _) e
  have cn3 : StC O u gl Pc Vm nu (mkc c C (tcN c + 1 + as.length + 1) (up1 (mkc c C (tcN c + 1 + as.length) D2) 1 (u, 1 + np, sh [] w ms, R - (as.length + 2) - 2))) w ms := StC_k cn (fun q y' e => dU3 q y' (dU2 q y' e))
  have t3 : TI O H nu (R - (as.length + 2) - 2) (mkc c C (tcN c + 1 + as.length + 1) (up1 (mkc c C (tcN c + 1 + as.length) D2) 1 (u, 1 + np, sh [] w ms, R - (as.length + 2) - 2))) := TI_s1 (c := mkc c C (tcN c + 1 + as.length) D2) t2' (no _ (by show tcN c ≤ tcN c + 1 + as.length; omega)) (Nat.le_refl _) (by show tcN c + 1 + as.length + 1 ≤ _; omega) (fun _ _ => rfl) (fun y ey => by
    have ey' : D2 (tcN c + 1 + as.length) = some y := ey
    rw [k2'] at ey'
    cases ey'
    exact OKq_of (op := 19) (x := nI vv) (dU3 _ _ k2') (no _ (by show tcN c ≤ tcN c + 1 + as.length; omega)) cn.1.2.1 (Nat.le_refl _) (by omega) (by decide) (Nat.le_refl _) (by show C (tcN c + 1 + as.length) &&& 255 = _; rw [cB]; exact em_lo (by decide)) (by show C (tcN c + 1 + as.length) >>> ((8 : Int32) &&& 31) = _; rw [cB]; exact em_hi (by decide) (Sm3_n (by omega))) (fun c' a hc ro => OKI_7 (by decide) ⟨fun z => absurd z (by decide), ⟨fun z => absurd z (by decide), fun z => absurd z (by decide), fun z => absurd z (by decide), fun _ => by
      obtain ⟨b1, b2, b3⟩ := a.2.1 vv (Or.inl ⟨f1, f2⟩)
      have b1' : tcE c' vv = tcE c vv := b1
      have b2' : tcP c' vv = tcP c vv := b2
      have b3' : tcF c' vv = tcF c vv := b3
      have ub : up1 (mkc c C (tcN c + 1 + as.length) D2) 1 (u, 1 + np, sh [] w ms, R - (as.length + 2) - 2) (tcN c + 1 + as.length + 1) = some (u, 1 + np, sh [] w ms, R - (as.length + 2) - 2) := up1_e (c := mkc c C (tcN c + 1 + as.length) D2)
      have eb := (a.2.2.2.2 (tcN c + 1 + as.length + 1) _ ub).1 (no _ (by omega))
      have ee := (a.2.2.2.2 (tcE c vv) _ (dU3 _ _ (dU2 _ _ f9))).1 f7
      refine ⟨vv, w, ms, ⟨rfl, ⟨f1, f3⟩, fun k => f4.1 ((a.2.2.1 vv (Or.inl f2)).1 k), f4.2⟩, st_bs cn, ⟨rfl, ?_⟩, tS_of a cn.1.1 cn.2.1.1, cn.2.1.2.2, ?_, ?_, R - (as.length + 2) - 2, ?_, by omega, rkE, ?_, by omega⟩
      · rw [b2', f5]; exact Nat.zero_add _
      · rw [tF_of a cn.1.1]; exact cn.1.2.2.1
      · rw [b2', b3']; exact f6
      · rw [b2', f5, eb, show 0 + 1 + np = 1 + np by omega]; rfl
      · rw [b1', b3']; exact ee, fun z => absurd z (by decide), fun z => absurd z (by decide), fun z => absurd z (by decide), fun z => absurd z (by omega), fun z => absurd z (by decide)⟩⟩)) (by omega)
  refine ⟨_, by rw [show tcN c + (as.length + 2) = tcN c + 1 + as.length + 1 by omega]; exact t3, fun q hq => ?_, ?_⟩
  · rw [up1_o (by show ¬ q = tcN c + 1 + as.length + 1; omega)]
    show D2 q = _
    rw [e2 q (by show q ≤ tcN c + 1; omega)]
    exact up1_o (by omega)
  · rw [show tcN c + (as.length + 2) = tcN c + 1 + as.length + 1 by omega]
    exact up1_e (c := mkc c C (tcN c + 1 + as.length) D2)
/-- what is taken from a target: where there is nothing, it isn't written -/
theorem Sst_tk (hm : 1 ≤ m) (hw : way < 1000) (h : Sst u gl Pc Vm [] x (m + 1) (m + 1) W) (hW : 1 ≤ W.length) : Sst u gl Pc Vm [] x m (m + 1) (em 101 (nI way) :: nI (2 + W.length) :: W) := by
  have el : (em 101 (nI way) :: nI (2 + W.length) :: W).length = W.length + 2 := rfl
  intro O H nu R c w ms C ti no hD cn hp hR1 hR2 hd hN hC1 hC2
  rw [el] at hR1 hd hN hC2 ⊢
  have rk40 : RK = 40000 := rfl
  have c0 : C (tcN c) = em 101 (nI way) := hC2 0 (by omega)
  have c1 : C (tcN c + 1) = nI (2 + W.length) := hC2 1 (by omega)
  have cA : ∀ i, i < W.length → C (tcN c + 2 + i) = W.getD i 0 := fun i hi => by
    have z := hC2 (i + 2) (by omega)
    rw [show tcN c + 2 + i = tcN c + (i + 2) from by omega, z]; rfl
  have dU1 : ∀ q y', tcD c q = some y' → up1 c 2 (u, m + 1, sh [] w ms, R - 2) q = some y' := fun q y' e => up1_d ti (by decide) e
  have t1 : TI O (fun q => H q ∨ q = tcN c) nu (R - 2) (mkc c C (tcN c + 2) (up1 c 2 (u, m + 1, sh [] w ms, R - 2))) := TI_em (ln := 2) (y := some (u, m + 1, sh [] w ms, R - 2)) (Hn := True) (On := False) ti (by decide) (by omega) hC1 rfl ⟨⟨rfl, rfl⟩, rfl, rfl⟩ (fun q => rfl) (fun q => ⟨Or.inl, fun z => z.elim id (fun w => w.2.elim)⟩) (fun z => z.elim) (fun q => ⟨fun z => z.elim Or.inl (fun y => Or.inr ⟨y, trivial⟩), fun z => z.elim Or.inl (fun y => Or.inr y.1)⟩) (fun o => trivial) (fun z => absurd trivial z) (by omega)
  obtain ⟨D2, t2, e2, k2⟩ := h O (fun q => H q ∨ q = tcN c) nu (R - 2) (mkc c C (tcN c + 2) (up1 c 2 (u, m + 1, sh [] w ms, R - 2))) w ms C t1 (fun q hq => no q (by have : tcN c + 2 ≤ q := hq; omega)) up1_e (StC_k cn dU1) nilp (by omega) (by omega) (by omega) (by show tcN c + 2 + W.length ≤ _; omega) (fun _ _ => rfl) (fun i hi => cA i hi)
  have k2' : D2 (tcN c + 2 + W.length) = some (u, m + 1, sh [] w ms, R - 2 - W.length - x) := k2
  have dU2 : ∀ q y', tcD c q = some y' → D2 q = some y' := fun q y' e => dd_of t1 e2 q y' (dU1 q y' e)
  have m2 : D2 (tcN c + 2) = some (u, m + 1, sh [] w ms, R - 2) := (e2 _ (Nat.le_refl _)).trans up1_e
  have d1 : ∀ y, ¬ D2 (tcN c + 1) = some y := fun y e => by
    have e' : up1 c 2 (u, m + 1, sh [] w ms, R - 2) (tcN c + 1) = some y := (e2 _ (by show tcN c + 1 ≤ tcN c + 2; omega)).symm.trans e
    rw [up1_o (by omega), ti.2.2.2.1 _ (by omega)] at e'
    cases e'
  have cn2 : StC O u gl Pc Vm nu (mkc c C (tcN c + 2 + W.length) D2) w ms := StC_k cn dU2
  have hz : ∀ q, H q → q < tcN c := ti.2.2.1
  have t3 : TI O H nu (R - 2 - W.length - x) (mkc c C (tcN c + 2 + W.length) D2) := by
    refine TI_fi (h := tcN c) (ln := 2) t2 (by decide) (Or.inr rfl) (no _ (Nat.le_refl _)) (by show tcN c + 2 ≤ tcN c + 2 + W.length; omega) (fun _ _ => rfl) rfl (dU2 _ _ hD) (fun i y i1 i2 => ?_) (fun h' hh' => ?_) (fun q => ⟨fun z => ⟨Or.inl z, fun e => by have := hz q z; omega⟩, fun z => z.1.elim id (fun e => absurd e z.2)⟩) ?_
    · rw [show i = tcN c + 1 by omega]; exact d1 y
    · rcases hh' with z | z
      · have := hz h' z; omega
      · omega
    · have ok := OKq_of (O := O) (nu := nu) (c := mkc c C (tcN c + 2 + W.length) D2) (pc := tcN c) (ln := 2) (R := R - 2 - W.length - x) (x := nI way) (op := 101) (dU2 _ _ hD) (no _ (Nat.le_refl _)) cn.1.2.1 (by show tcN c + 1 ≤ tcN c + 2 + W.length; omega) (by omega) (by decide) (by decide) (by show C (tcN c) &&& 255 = _; rw [c0]; exact em_lo (by decide)) (by show C (tcN c) >>> ((8 : Int32) &&& 31) = _; rw [c0]; exact em_hi (by decide) (Sm3_n (by omega))) (fun c' a hc ro => OKI_6 (by decide) (by
        have c1' : tcC c' (tcN c + 1) = nI (2 + W.length) := (hc (tcN c + 1) (by omega) (by omega)).trans c1
        have tg : uN (nI (tcN c) + nI (2 + W.length)) = tcN c + 2 + W.length := by
          rw [u_add (by rw [u_n (by omega), u_n (by omega)]; omega), u_n (by omega), u_n (by omega)]
          omega
        refine ⟨fun z => absurd z (by omega), fun z => absurd z (by decide), fun z => absurd z (by decide), fun z => absurd z (by decide), fun _ => ⟨hm, by have := a.1; have : tcN c + 2 + W.length ≤ tcN c' := a.1; omega, ?_, ?_⟩⟩
        · rw [c1', tg]
          exact sx_N (pre := []) a cn2 nilp k2' (no _ (by omega)) (by omega)
        · exact sx_S (pre := []) a cn2 nilp m2 (no _ (by omega)) (by omega)))
      exact ok
  refine ⟨D2, ?_, fun q hq => ?_, ?_⟩
  · rw [show R - (W.length + 2) - x = R - 2 - W.length - x by omega, show tcN c + (W.length + 2) = tcN c + 2 + W.length by omega]; exact t3
  · rw [e2 q (by show q ≤ tcN c + 2; omega)]; exact up1_o (by omega)
  · rw [show R - (W.length + 2) - x = R - 2 - W.length - x by omega, show tcN c + (W.length + 2) = tcN c + 2 + W.length by omega]; exact k2'
/-- what a tuple's members are written into: member after member -/
def hoC : Nat → Nat → List (Option (Nat × Nat × List Nat)) → List Int32
  | _, _, [] => []
  | i, bl, none :: r => hoC (i + 1) bl r
  | i, bl, some (g, s, ks) :: r => [em 99 (nI i)] ++ (rwL (192 + g) s (bl + 2) ks ++ ([em 37 (nI 1)] ++ hoC (i + 1) (bl - wdN ks) r))
def hoO (gl : Nat × (Nat → Nat → Prop)) (Vm : Nat → Prop) : Nat → List (Option (Nat × Nat × List Nat)) → Prop
  | _, [] => True
  | bl, none :: r => hoO gl Vm bl r
  | bl, some (g, s, ks) :: r => (TgO gl Vm g s ∧ (∀ i, i < ks.length → ks.getD i 0 < 256) ∧ wdN ks ≤ bl) ∧ hoO gl Vm (bl - wdN ks) r
theorem Sst_nil : Sst u gl Pc Vm pre 0 m m [] := by
  intro O H nu R c w ms C ti no hD cn hp hR1 hR2 hd hN hC1 hC2
  exact (Sgm_nil u 0 gl Vm).2 O H nu R c m pre w ms C ti (no _ (Nat.le_refl _)) hD hp cn.1 hR1 hR2 hd hN hC1 hC2
theorem Is_mb {vt : Nat} (hv : vt < 250000) (hi : i < 8388608) : Isc u gl Pc Vm [500000 + vt] 0 0 1 [em 99 (nI i)] := Is_1 (by decide) (Sm3_n hi) (fun O nu R re c c' pc w ms hN no2 hD2 hr cn hp hR1 hR2 hd a => OKI_6 (by decide) ⟨fun z => absurd z (by omega), fun z => absurd z (by decide), fun _ => ⟨vt, _, rfl, rfl, hv, sx_N a cn hp hD2 no2 (by omega)⟩, fun z => absurd z (by decide), fun z => absurd z (by decide)⟩)
theorem Sst_hs {vt : Nat} (hv : vt < 90000) : ∀ (hs : List (Option (Nat × Nat × List Nat))) (i bl : Nat), i + hs.length < 8388608 → bl ≤ vt → hoO gl Vm bl hs → Sst u gl Pc Vm [500000 + vt] 0 0 0 (hoC i bl hs)
  | [], i, bl, _, _, _ => Sst_nil
  | none :: r, i, bl, h1, h2, h3 => Sst_hs hv r (i + 1) bl (by have : (none :: r : List (Option (Nat × Nat × List Nat))).length = r.length + 1 := rfl; omega) h2 h3
  | some (g, s, ks) :: r, i, bl, h1, h2, h3 => by
    obtain ⟨⟨z1, z2, z3⟩, z4⟩ := h3
    have el : (some (g, s, ks) :: r : List (Option (Nat × Nat × List Nat))).length = r.length + 1 := rfl
    have ih := Sst_hs hv r (i + 1) (bl - wdN ks) (by omega) (by omega) z4
    have w1 : Sst u gl Pc Vm [500000 + vt] 0 1 1 (rwL (192 + g) s (bl + 2) ks) := Sst_i (Is_wr z1 z2 (by omega) (fun w ms => Or.inr ⟨by show 500000 ≤ 500000 + vt; omega, by show 500000 + vt < 750000; omega, Or.inl (by show bl + 2 - (1 + 1) ≤ 500000 + vt - 500000; omega)⟩) (by omega) (Nat.le_refl _)) (by rw [rwL_l]; omega) (by omega)
    have d1 : Sst u gl Pc Vm [500000 + vt] 0 1 0 [em 37 (nI 1)] := Sst_i (Is_dr (n := 0) (k := 1) (by decide)) (by decide) (by omega)
    exact Sst_seq (x1 := 0) (x2 := 0) (k := 1) (Sst_i (Is_mb (by omega) (by omega)) (Nat.le_refl 1) (by show 1 ≤ 0 + 1; decide)) (Sst_seq (x1 := 0) (x2 := 0) (k := 1) w1 (Sst_seq (x1 := 0) (x2 := 0) (k := 0) d1 ih (by omega)) (by omega)) (by show 1 ≤ 0 + 1; decide)
/-- [ .. ] := -/
theorem Sse_ho {vt : Nat} {hs : List (Option (Nat × Nat × List Nat))} (hv : vt < 90000) (hl : hs.length < 8388608) (ho : hoO gl Vm vt hs) : Sse u gl Pc Vm [] 0 (vt + 1) 0 (em 100 0 :: (hoC 0 vt hs ++ [em 37 (nI (vt + 1))])) := by
  have h := Sst_hs (u := u) (Pc := Pc) (vt := vt) hv hs 0 vt (by omega) (Nat.le_refl _) ho
  generalize hoC 0 vt hs = W at h ⊢
  have el : (em 100 0 :: (W ++ [em 37 (nI (vt + 1))])).length = W.length + 2 := by rw [List.length_cons, List.length_append]; rfl
  intro O H nu R re c w ms C ti no hD cn hp hR1 hR2 hre hd hN hC1 hC2
  rw [el] at hR1 hre hd hN hC2 ⊢
  have rk40 : RK = 40000 := rfl
  have bs : bsl = 1000000 := rfl
  have c0 : C (tcN c) = em 100 0 := hC2 0 (by omega)
  have cA : ∀ i, i < W.length → C (tcN c + 1 + i) = W.getD i 0 := fun i hi => by
    have z := hC2 (i + 1) (by omega)
    rw [show tcN c + 1 + i = tcN c + (i + 1) from by omega, z]
    exact gd_l hi
  have cB : C (tcN c + 1 + W.length) = em 37 (nI (vt + 1)) := by
    have z := hC2 (W.length + 0 + 1) (by omega)
    rw [show tcN c + 1 + W.length = tcN c + (W.length + 0 + 1) from by omega, z]
    exact gd_r 0
  have hp1 : ∀ e, e ∈ [500000 + vt] → e < bsl := pre_c (e0 := 500000 + vt) nilp (by omega)
  have dU1 : ∀ q y', tcD c q = some y' → up1 c 1 (u, 0, sh [500000 + vt] w ms, R - 1) q = some y' := fun q y' e => up1_d ti (Nat.le_refl _) e
  have t1 : TI O H nu (R - 1) (mkc c C (tcN c + 1) (up1 c 1 (u, 0, sh [500000 + vt] w ms, R - 1))) := TI_s1 ti (no _ (Nat.le_refl _)) (Nat.le_refl _) (by omega) hC1 (fun y ey => by
    rw [hD] at ey
    cases ey
    exact OKq_of (op := 100) (x := 0) (dU1 _ _ hD) (no _ (Nat.le_refl _)) cn.1.2.1 (Nat.le_refl _) (by omega) (by decide) (Nat.le_refl _) (by show C (tcN c) &&& 255 = _; rw [c0]; exact em_lo (by decide)) (by show C (tcN c) >>> ((8 : Int32) &&& 31) = _; rw [c0]; exact em_hi (by decide) Sm3_0) (fun c' a hc ro => OKI_6 (by decide) ⟨fun z => absurd z (by omega), fun z => absurd z (by decide), fun z => absurd z (by decide), fun _ => ⟨vt, w, ms, rfl, rfl, by omega, by rw [tF_of a cn.1.1]; exact cn.1.2.2.1, it_N (pre := [500000 + vt]) a (CnC_k cn.1 dU1) hp1 up1_e (no _ (by omega)) (by omega)⟩, fun z => absurd z (by decide)⟩)) (by omega)
  obtain ⟨D2, t2, e2, k2⟩ := h O H nu (R - 1) (mkc c C (tcN c + 1) (up1 c 1 (u, 0, sh [500000 + vt] w ms, R - 1))) w ms C t1 (fun q hq => no q (by have : tcN c + 1 ≤ q := hq; omega)) up1_e (StC_k cn dU1) hp1 (by omega) (by omega) (by omega) (by show tcN c + 1 + W.length ≤ _; omega) (fun _ _ => rfl) (fun i hi => cA i hi)
  have k2' : D2 (tcN c + 1 + W.length) = some (u, 0, sh [500000 + vt] w ms, R - 1 - W.length - 0) := k2
  have t2' : TI O H nu (R - 1 - W.length - 0) (mkc c C (tcN c + 1 + W.length) D2) := t2
  have dU2 : ∀ q y', tcD c q = some y' → D2 q = some y' := fun q y' e => dd_of t1 e2 q y' (dU1 q y' e)
  have dU3 : ∀ q y', D2 q = some y' → up1 (mkc c C (tcN c + 1 + W.length) D2) 1 (u, 0, sh [] w ms, re) q = some y' := fun q y' e => up1_d t2' (Nat.le_refl _) e
  have cn3 : StC O u gl Pc Vm nu (mkc c C (tcN c + 1 + W.length + 1) (up1 (mkc c C (tcN c + 1 + W.length) D2) 1 (u, 0, sh [] w ms, re))) w ms := StC_k cn (fun q y' e => dU3 q y' (dU2 q y' e))
  have t3 : TI O H nu (R - (W.length + 2) - 0) (mkc c C (tcN c + 1 + W.length + 1) (up1 (mkc c C (tcN c + 1 + W.length) D2) 1 (u, 0, sh [] w ms, re))) := TI_s1 (c := mkc c C (tcN c + 1 + W.length) D2) t2' (no _ (by show tcN c ≤ tcN c + 1 + W.length; omega)) (Nat.le_refl _) (by show tcN c + 1 + W.length + 1 ≤ _; omega) (fun _ _ => rfl) (fun y ey => by
    have ey' : D2 (tcN c + 1 + W.length) = some y := ey
    rw [k2'] at ey'
    cases ey'
    exact OKq_of (op := 37) (x := nI (vt + 1)) (dU3 _ _ k2') (no _ (by show tcN c ≤ tcN c + 1 + W.length; omega)) cn.1.2.1 (Nat.le_refl _) (by omega) (by decide) (Nat.le_refl _) (by show C (tcN c + 1 + W.length) &&& 255 = _; rw [cB]; exact em_lo (by decide)) (by show C (tcN c + 1 + W.length) >>> ((8 : Int32) &&& 31) = _; rw [cB]; exact em_hi (by decide) (Sm3_n (by omega))) (fun c' a hc ro => OKI_2 (by decide) ⟨fun z => absurd z (by decide), fun z => absurd z (by decide), fun z => absurd z (by decide), fun z => absurd z (by decide), fun z => absurd z (by decide), fun _ => ⟨0, sh [] w ms, by
      rw [u_n (by omega), show vt + 1 = 0 + 1 + vt by omega]; exact Drp_dt (by omega), sx_N (pre := []) a cn3 nilp up1_e (no _ (by show tcN c ≤ tcN c + 1 + W.length + 1; omega)) (by omega)⟩, fun z => absurd z (by decide), fun z => absurd z (by decide), fun z => absurd z (by decide), fun z => absurd z (by decide), fun z => absurd z (by omega)⟩)) (by omega)
  refine ⟨_, by rw [show tcN c + (W.length + 2) = tcN c + 1 + W.length + 1 by omega]; exact t3, fun q hq => ?_, ?_⟩
  · rw [up1_o (by show ¬ q = tcN c + 1 + W.length + 1; omega)]
    show D2 q = _
    rw [e2 q (by show q ≤ tcN c + 1; omega)]
    exact up1_o (by omega)
  · rw [show tcN c + (W.length + 2) = tcN c + 1 + W.length + 1 by omega]
    exact up1_e (c := mkc c C (tcN c + 1 + W.length) D2)
end CWH
