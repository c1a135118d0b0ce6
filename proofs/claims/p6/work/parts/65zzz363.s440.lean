/-! The class: formers and quantifiers, typed. -/
section CUY
variable {c c' c1 c2 : Ct} {O O' H H' : Nat → Prop} {u nu nu' pc ln R R' p p' d rk k op w n m m' q t t' cnt : Nat} {r pre ms ms' xm : List Nat} {x v wd : Int32} {Vm Vm' : Nat → Prop} {cs ins o as : List Int32} {gl : Nat × (Nat → Nat → Prop)} {C : Nat → Int32} {y : Nat × Nat × List Nat × Nat} {nl : List (Nat × Nat × List Nat)} {e0 : Nat × Nat × List Nat}
theorem gd_k {a b : List Int32} {k : Nat} (h : a.length = k) (i : Nat) : (a ++ b).getD (k + i) 0 = b.getD i 0 := by
  rw [← h]; exact gd_r i
/-- all NEXTs of a row are closed: it ends at X; what lies below and behind stays -/
theorem Cl2 {N X rkE : Nat} (hp : ∀ e, e ∈ pre → e < bsl) (cn : (u ≤ nu ∨ u = 41) ∧ u < 42 ∧ tcF c u ≤ w) (hms : ∀ i, i ∈ ms → bsl ≤ i → (i - bsl) % 500000 < p) (rl : RwL p cs nl) (hl : 1 ≤ nl.length) (hX : cs.length ≤ X) (hN : N + X ≤ tcN c) (hc1 : ∀ i, i < cs.length → (∀ e, e ∈ nl → ¬ i = e.1 + 1) → tcC c (N + i) = cs.getD i 0) (hc2 : ∀ e, e ∈ nl → tcC c (N + e.1 + 1) = (cs.set (fstP nl + 1) (nI (X - fstP nl))).getD (e.1 + 1) 0) (ti : TI (fun q => O q ∨ ∃ e, e ∈ nl ∧ q = N + e.1) (fun q => H q ∨ ∃ e, e ∈ nl ∧ q = N + e.1) nu R c) (hH : ∀ q, N ≤ q → q < N + cs.length → ¬ H q) (hO : ∀ q, N ≤ q → ¬ O q) (hDX : tcD c (N + X) = some (u, d, sh pre w ms, rkE)) (hNx : ∀ e, e ∈ nl → NxE u N d pre w ms (tcD c) e) (hr : rkE + nl.length < R) (hR : R ≤ RK) : ∃ D, TI O H nu R (mkc c (tcC c) (tcN c) D) ∧ (∀ q, (∀ e, e ∈ nl → ¬ q = N + e.1) → D q = tcD c q) := by
  have t36 := ti.1
  obtain ⟨ef, ef1, ef2⟩ := fst_m hl
  have lf := RwL_le _ rl ef ef1
  obtain ⟨D, a1, a2, a3⟩ := Cls (p := p) (cs := cs) (N := N) (X := X) (rkE := rkE) (R := R) (d := d) (w := w) (ms := ms) hp cn.1 cn.2.1 (by omega) nl O H c cn.2.2 hms rl (fun e he => by
    rw [hc1 e.1 (by have := RwL_le _ rl e he; omega) (fun f hf => RwL_nc nl rl e f he hf)]
    exact RwL_cd nl rl e he) (fun _ _ _ _ _ _ => trivial) (fun i e hi he => by
    have hm : e ∈ nl := he ▸ gD_mem nl i hi
    rw [hc2 e hm, gd_set]
    by_cases z : i + 1 < nl.length
    · obtain ⟨w1, w2⟩ := RwL_wd nl rl i z
      rw [he] at w1 w2
      have w2' : fstP nl + 2 ≤ e.1 := w2
      rw [if_neg (fun y => by have := y.1; omega), if_pos z]
      exact w1
    · have ei : i = nl.length - 1 := by omega
      have ee : e.1 = fstP nl := by rw [← he, ei]; rfl
      rw [if_pos ⟨by rw [ee], by omega⟩, if_neg z, ee]) (fun e he => by have := RwL_le _ rl e he; omega) hN ti (fun q hq => Or.inl (hO q hq)) (fun e he => by
    have := RwL_le _ rl e he
    exact ⟨hH (N + e.1) (by omega) (by omega), hH (N + e.1 + 1) (by omega) (by omega)⟩) (fun e he => ⟨hO _ (by omega), hO _ (by omega)⟩) (hO _ (by omega)) hDX hNx hr hR
  exact ⟨D, a1, a2⟩
/-- { for .. : .. } or [ for .. : .. ] -/
theorem Sgm_fr {g f : Nat} (hg : (g = 81 ∧ f = 83 ∧ t = 1) ∨ (g = 82 ∧ f = 84 ∧ t = 0)) (h : RwB u p gl Vm p' xm (e0 :: nl) 1 cs) (hs : ∀ i, i = bsl + e0.2.1 ∨ i ∈ e0.2.2 → i ∈ xm) : Sgm u p gl Vm 1 (em 80 0 :: (cs.set (fstP (e0 :: nl) + 1) (nI (cs.length + 2 - fstP (e0 :: nl))) ++ [em g 0, em 3 (nI e0.1 - nI (cs.length + 1)), em 68 (nI p), nI (p' - p), em f 0])) := by
  obtain ⟨h1, h2, h3, h4, h5⟩ := h
  have el : (em 80 0 :: (cs.set (fstP (e0 :: nl) + 1) (nI (cs.length + 2 - fstP (e0 :: nl))) ++ [em g 0, em 3 (nI e0.1 - nI (cs.length + 1)), em 68 (nI p), nI (p' - p), em f 0])).length = cs.length + 6 := by
    rw [List.length_cons, List.length_append, List.length_set]; rfl
  have rk40 : RK = 40000 := rfl
  have bs : bsl = 1000000 := rfl
  refine ⟨by rw [el]; omega, fun O H nu R c d pre w ms C ti no hD hp cn hR1 hR2 hd hN hC1 hC2 => ?_⟩
  rw [el] at hR1 hd hN hC2 ⊢
  have nO := noO_ge ti no
  obtain ⟨ef, ef1, ef2⟩ := fst_m (nl := e0 :: nl) (by show 1 ≤ nl.length + 1; omega)
  have lf := RwL_le _ h4 ef ef1
  have le0 := RwL_le _ h4 e0 List.mem_cons_self
  have lset : (cs.set (fstP (e0 :: nl) + 1) (nI (cs.length + 2 - fstP (e0 :: nl)))).length = cs.length := List.length_set
  have c0 : C (tcN c) = em 80 0 := hC2 0 (by omega)
  have cA : ∀ i, i < cs.length → C (tcN c + 1 + i) = (cs.set (fstP (e0 :: nl) + 1) (nI (cs.length + 2 - fstP (e0 :: nl)))).getD i 0 := fun i hi => by
    have z := hC2 (i + 1) (by omega)
    rw [show tcN c + 1 + i = tcN c + (i + 1) from by omega, z]
    exact gd_l (by rw [lset]; exact hi)
  have cT : ∀ i, i < 5 → C (tcN c + 1 + cs.length + i) = [em g 0, em 3 (nI e0.1 - nI (cs.length + 1)), em 68 (nI p), nI (p' - p), em f 0].getD i 0 := fun i hi => by
    have z := hC2 (cs.length + i + 1) (by omega)
    rw [show tcN c + 1 + cs.length + i = tcN c + (cs.length + i + 1) from by omega, z]
    show (cs.set (fstP (e0 :: nl) + 1) (nI (cs.length + 2 - fstP (e0 :: nl))) ++ _).getD (cs.length + i) 0 = _
    exact gd_k lset i
  have hp1 := pre_c (e0 := 2 * d + t) hp (by omega)
  have dU1 : ∀ q y', tcD c q = some y' → up1 c 1 (u, 0, sh ((2 * d + t) :: pre) w ms, R - 1) q = some y' := fun q y' e => up1_d ti (Nat.le_refl _) e
  -- GATHER
  have t1 : TI O H nu (R - 1) (mkc c C (tcN c + 1) (up1 c 1 (u, 0, sh ((2 * d + t) :: pre) w ms, R - 1))) := TI_s1 ti no (Nat.le_refl _) (by omega) hC1 (fun y ey => by
    rw [hD] at ey
    cases ey
    exact OKq_of (op := 80) (x := 0) (dU1 _ _ hD) no cn.2.1 (Nat.le_refl _) (by omega) (by decide) (Nat.le_refl _) (by show C (tcN c) &&& 255 = _; rw [c0]; exact em_lo (by decide)) (by show C (tcN c) >>> ((8 : Int32) &&& 31) = _; rw [c0]; exact em_hi (by decide) Sm3_0) (fun c' a hc ro => OKI_5 (by decide) ⟨fun _ => ⟨t, by omega, by omega, it_N (R' := R - 1) a (CnC_k cn dU1) hp1 up1_e (nO _ (by omega)) (by omega)⟩, fun z => absurd z (by decide), fun z => absurd z (by decide), fun z => absurd z (by decide), fun z => absurd z (by decide), fun z => absurd z (by decide)⟩)) (by omega)
  obtain ⟨D2, t2, e2, f2, k2⟩ := h5 O H nu (R - 1) (mkc c C (tcN c + 1) (up1 c 1 (u, 0, sh ((2 * d + t) :: pre) w ms, R - 1))) 0 ((2 * d + t) :: pre) w ms C t1 (nO _ (by show tcN c ≤ tcN c + 1; omega)) up1_e hp1 (CnC_k cn dU1) (by omega) (by omega) (by omega) (by show tcN c + 1 + cs.length ≤ _; omega) (fun _ _ => rfl) (fun i hi hh => by
    show C (tcN c + 1 + i) = _
    rw [cA i hi, gd_set, if_neg (fun z => hh ef ef1 (by rw [ef2]; exact z.1))])
  have cnA := CnC_k (C := C) (N := tcN c + 1) cn dU1
  have nO2 : ∀ q, tcN c + 1 + cs.length ≤ q → ¬ (O q ∨ ∃ e, e ∈ e0 :: nl ∧ q = tcN c + 1 + e.1) := noO_nl t1 (nO _ (by show tcN c ≤ tcN c + 1; omega)) h4
  have hu := cn.1
  have btw : ∀ (X : List Nat) (d' : Nat), tcF c u ≤ bt d' (sh ((2 * d + t) :: pre) w X) := fun X d' => by rw [sh_bt _ _ hp1]; exact cn.2.2.1
  have l1 : (e0 :: nl).length = nl.length + 1 := rfl
  have ll := h3.1
  have t2' : TI (fun q => O q ∨ ∃ e, e ∈ e0 :: nl ∧ q = tcN c + 1 + e.1) (fun q => H q ∨ ∃ e, e ∈ e0 :: nl ∧ q = tcN c + 1 + e.1) nu (R - 1 - cs.length + (e0 :: nl).length) (mkc c C (tcN c + 1 + cs.length) D2) := t2
  have f2' : D2 (tcN c + 1 + cs.length) = some (u, 0 + 1, sh ((2 * d + t) :: pre) w (xm ++ ms), R - 1 - cs.length + (e0 :: nl).length) := f2
  have k2' : ∀ e, e ∈ e0 :: nl → NxE u (tcN c + 1) 0 ((2 * d + t) :: pre) w ms D2 e := k2
  have cG : C (tcN c + 1 + cs.length) = em g 0 := cT 0 (by decide)
  have cJ : C (tcN c + 1 + cs.length + 1) = em 3 (nI e0.1 - nI (cs.length + 1)) := cT 1 (by decide)
  have cK : C (tcN c + 1 + cs.length + 1 + 1) = em 68 (nI p) := cT 2 (by decide)
  have cL : C (tcN c + 1 + cs.length + 1 + 1 + 1) = nI (p' - p) := cT 3 (by decide)
  have cM : C (tcN c + 1 + cs.length + 1 + 1 + 2) = em f 0 := cT 4 (by decide)
  generalize hQ : R - 1 - cs.length + (e0 :: nl).length = Q at *
  -- GATHER_SET, GATHER_TUPLE
  have dU3 : ∀ q y', D2 q = some y' → up1 (mkc c C (tcN c + 1 + cs.length) D2) 1 (u, 0, sh ((2 * d + t) :: pre) w (xm ++ ms), Q - 1) q = some y' := fun q y' e => up1_d t2' (Nat.le_refl _) e
  have t3 : TI (fun q => O q ∨ ∃ e, e ∈ e0 :: nl ∧ q = tcN c + 1 + e.1) (fun q => H q ∨ ∃ e, e ∈ e0 :: nl ∧ q = tcN c + 1 + e.1) nu (Q - 1) (mkc c C (tcN c + 1 + cs.length + 1) (up1 (mkc c C (tcN c + 1 + cs.length) D2) 1 (u, 0, sh ((2 * d + t) :: pre) w (xm ++ ms), Q - 1))) := TI_s1 (c := mkc c C (tcN c + 1 + cs.length) D2) t2' (nO2 _ (Nat.le_refl _)) (Nat.le_refl _) (by show tcN c + 1 + cs.length + 1 ≤ _; omega) (fun _ _ => rfl) (fun y ey => by
    have ey' : D2 (tcN c + 1 + cs.length) = some y := ey
    rw [f2'] at ey'
    cases ey'
    refine OKq_of (op := g) (x := 0) (dU3 _ _ f2') (nO2 _ (Nat.le_refl _)) cn.2.1 (Nat.le_refl _) (by omega) (by omega) (Nat.le_refl _) (by show C (tcN c + 1 + cs.length) &&& 255 = _; rw [cG]; exact em_lo (by omega)) (by show C (tcN c + 1 + cs.length) >>> ((8 : Int32) &&& 31) = _; rw [cG]; exact em_hi (by omega) Sm3_0) (fun c' a hc ro => OKI_5 ⟨by omega, by omega⟩ ?_)
    have nx : Nx c' (tcN c + 1 + cs.length + 1) u 0 (sh ((2 * d + t) :: pre) w (xm ++ ms)) Q := nx_of a hu (up1_e (c := mkc c C (tcN c + 1 + cs.length) D2) (ln := 1)) (nO2 _ (by show tcN c + 1 + cs.length ≤ tcN c + 1 + cs.length + 1; omega)) (Rsh_r _ _) (btw _ _) (btw _ _) (by omega)
    rcases hg with ⟨hg, _, ht⟩ | ⟨hg, _, ht⟩
    · subst hg
      exact ⟨fun z => absurd z (by decide), fun _ => ⟨2 * d + t, sh pre w (xm ++ ms), rfl, rfl, by omega, by omega, nx⟩, fun z => absurd z (by decide), fun z => absurd z (by decide), fun z => absurd z (by decide), fun z => absurd z (by decide)⟩
    · subst hg
      exact ⟨fun z => absurd z (by decide), fun z => absurd z (by decide), fun _ => ⟨2 * d + t, sh pre w (xm ++ ms), rfl, rfl, by omega, by omega, nx⟩, fun z => absurd z (by decide), fun z => absurd z (by decide), fun z => absurd z (by decide)⟩) (by omega)
  generalize hD3 : up1 (mkc c C (tcN c + 1 + cs.length) D2) 1 (u, 0, sh ((2 * d + t) :: pre) w (xm ++ ms), Q - 1) = D3 at *
  have f3 : D3 (tcN c + 1 + cs.length + 1) = some (u, 0, sh ((2 * d + t) :: pre) w (xm ++ ms), Q - 1) := by rw [← hD3]; exact up1_e (c := mkc c C (tcN c + 1 + cs.length) D2)
  have e3 : ∀ q, q ≤ tcN c + 1 + cs.length → D3 q = D2 q := fun q hq => by rw [← hD3]; exact up1_o (by show ¬ q = tcN c + 1 + cs.length + 1; omega)
  -- JUMP
  let rkE := R - (cs.length + 3)
  have rkq : rkE + (e0 :: nl).length + 1 = Q - 1 := by show R - (cs.length + 3) + (e0 :: nl).length + 1 = Q - 1; omega
  have dU4 : ∀ q y', D3 q = some y' → up1 (mkc c C (tcN c + 1 + cs.length + 1) D3) 1 (u, 0, sh ((2 * d + t) :: pre) w ms, rkE) q = some y' := fun q y' e => up1_d t3 (Nat.le_refl _) e
  obtain ⟨⟨ra, a1⟩, _⟩ := k2' e0 List.mem_cons_self
  have t4 : TI (fun q => O q ∨ ∃ e, e ∈ e0 :: nl ∧ q = tcN c + 1 + e.1) (fun q => H q ∨ ∃ e, e ∈ e0 :: nl ∧ q = tcN c + 1 + e.1) nu (Q - 1) (mkc c C (tcN c + 1 + cs.length + 1 + 1) (up1 (mkc c C (tcN c + 1 + cs.length + 1) D3) 1 (u, 0, sh ((2 * d + t) :: pre) w ms, rkE))) := TI_s1 (c := mkc c C (tcN c + 1 + cs.length + 1) D3) t3 (nO2 _ (by show tcN c + 1 + cs.length ≤ tcN c + 1 + cs.length + 1; omega)) (Nat.le_refl _) (by show tcN c + 1 + cs.length + 1 + 1 ≤ _; omega) (fun _ _ => rfl) (fun y ey => by
    have ey' : D3 (tcN c + 1 + cs.length + 1) = some y := ey
    rw [f3] at ey'
    cases ey'
    refine OKq_of (op := 3) (x := nI e0.1 - nI (cs.length + 1)) (dU4 _ _ f3) (nO2 _ (by show tcN c + 1 + cs.length ≤ tcN c + 1 + cs.length + 1; omega)) cn.2.1 (Nat.le_refl _) (by omega) (by decide) (Nat.le_refl _) (by show C (tcN c + 1 + cs.length + 1) &&& 255 = _; rw [cJ]; exact em_lo (by decide)) (by show C (tcN c + 1 + cs.length + 1) >>> ((8 : Int32) &&& 31) = _; rw [cJ]; exact em_hi (by decide) (Sm3_s (by omega) (by omega))) (fun c' a hc ro => OKI_1 (by decide) ⟨fun z => absurd z (by decide), fun _ => ?_, fun z => absurd z (by decide), fun z => absurd z (by decide), fun z => absurd z (by decide)⟩)
    show Nx c' (uN (nI (tcN c + 1 + cs.length + 1) + (nI e0.1 - nI (cs.length + 1)))) u 0 (sh ((2 * d + t) :: pre) w (xm ++ ms)) (Q - 1)
    rw [show tcN c + 1 + cs.length + 1 = tcN c + 1 + (cs.length + 1) from by omega, tg_b (by omega) (by omega)]
    exact nxO_of a hu ro (dU4 _ _ ((e3 _ (by omega)).trans a1)) (Or.inr ⟨e0, List.mem_cons_self, rfl⟩) (shRsh 0 hp1 (fun i hi => by
      rcases List.mem_cons.1 hi with z | z
      · exact List.mem_append_left _ (hs i (Or.inl z))
      · rcases List.mem_append.1 z with z | z
        · exact List.mem_append_left _ (hs i (Or.inr z))
        · exact List.mem_append_right _ z)) (btw _ _) (btw _ _) (Nat.le_refl _)) (Nat.le_refl _)
  generalize hD4 : up1 (mkc c C (tcN c + 1 + cs.length + 1) D3) 1 (u, 0, sh ((2 * d + t) :: pre) w ms, rkE) = D4 at *
  have f4 : D4 (tcN c + 1 + cs.length + 1 + 1) = some (u, 0, sh ((2 * d + t) :: pre) w ms, rkE) := by rw [← hD4]; exact up1_e (c := mkc c C (tcN c + 1 + cs.length + 1) D3)
  have e4 : ∀ q, q ≤ tcN c + 1 + cs.length + 1 → D4 q = D3 q := fun q hq => by rw [← hD4]; exact up1_o (by show ¬ q = tcN c + 1 + cs.length + 1 + 1; omega)
  have e42 : ∀ q, q ≤ tcN c + 1 + cs.length → D4 q = D2 q := fun q hq => (e4 q (by omega)).trans (e3 q hq)
  -- the end
  obtain ⟨D5, t5, e5⟩ := Cl2 (c := mkc c C (tcN c + 1 + cs.length + 1 + 1) D4) (N := tcN c + 1) (X := cs.length + 2) (rkE := rkE) (R := Q - 1) (O := O) (H := H) (nu := nu) (u := u) (d := 0) (pre := (2 * d + t) :: pre) (w := w) (ms := ms) (p := p) (cs := cs) (nl := e0 :: nl) hp1 ⟨hu, cn.2.1, cn.2.2.1⟩ cn.2.2.2.2.2.1 h4 (by omega) (by omega) (by show tcN c + 1 + (cs.length + 2) ≤ tcN c + 1 + cs.length + 1 + 1; omega) (fun i hi hh => by
    show C (tcN c + 1 + i) = _
    rw [cA i hi, gd_set, if_neg (fun z => hh ef ef1 (by rw [ef2]; exact z.1))]) (fun e he => by
    have := RwL_le _ h4 e he
    show C (tcN c + 1 + e.1 + 1) = _
    rw [Nat.add_assoc (tcN c + 1), cA _ (by omega)]) t4 (fun q hq _ z => by have := ti.2.2.1 q z; omega) (fun q hq => nO q (by omega)) (by
    show D4 (tcN c + 1 + (cs.length + 2)) = _
    exact f4) (fun e he => by
    have le := RwL_le _ h4 e he
    obtain ⟨⟨ra, b1⟩, b2, rb, b3, b4⟩ := k2' e he
    exact ⟨⟨ra, (e42 _ (by omega)).trans b1⟩, (e42 _ (by omega)).trans b2, rb, b3, (e42 _ (by omega)).trans b4⟩) (by omega) (by omega)
  have t5' : TI O H nu (Q - 1) (mkc c C (tcN c + 1 + cs.length + 1 + 1) D5) := t5
  have e5' : ∀ q, (∀ e, e ∈ e0 :: nl → ¬ q = tcN c + 1 + e.1) → D5 q = D4 q := e5
  have f5 : D5 (tcN c + 1 + cs.length + 1 + 1) = some (u, 0, sh ((2 * d + t) :: pre) w ms, rkE) := by
    rw [e5' _ (fun e he => by have := RwL_le _ h4 e he; omega)]; exact f4
  have low : ∀ q, q ≤ tcN c → D5 q = tcD c q := fun q hq => by
    rw [e5' _ (fun e he => by omega), e42 q (by omega), e2 q (by show q ≤ tcN c + 1; omega)]
    exact up1_o (by omega)
  have dU5 : ∀ q y', tcD c q = some y' → D5 q = some y' := dd_of ti low
  have t5'' := TI_R t5' (R' := rkE) (by omega)
  have rkv : rkE = R - (cs.length + 3) := rfl
  -- CLEAR
  have dU6 : ∀ q y', D5 q = some y' → up1 (mkc c C (tcN c + 1 + cs.length + 1 + 1) D5) 2 (u, 0, sh ((2 * d + t) :: pre) w ms, rkE - 2) q = some y' := fun q y' e => up1_d t5'' (by decide) e
  have t6 : TI O H nu (rkE - 2) (mkc c C (tcN c + 1 + cs.length + 1 + 1 + 2) (up1 (mkc c C (tcN c + 1 + cs.length + 1 + 1) D5) 2 (u, 0, sh ((2 * d + t) :: pre) w ms, rkE - 2))) := TI_s1 (c := mkc c C (tcN c + 1 + cs.length + 1 + 1) D5) t5'' (nO _ (by show tcN c ≤ tcN c + 1 + cs.length + 1 + 1; omega)) (by decide) (by show tcN c + 1 + cs.length + 1 + 1 + 2 ≤ _; omega) (fun _ _ => rfl) (fun y ey => by
    have ey' : D5 (tcN c + 1 + cs.length + 1 + 1) = some y := ey
    rw [f5] at ey'
    cases ey'
    exact It_cl (u := u) (p := p) (gl := gl) (Vm := Vm) (m := 0) (k := p' - p) (by omega) O nu rkE (mkc c C (tcN c + 1 + cs.length + 1 + 1 + 2) (up1 (mkc c C (tcN c + 1 + cs.length + 1 + 1) D5) 2 (u, 0, sh ((2 * d + t) :: pre) w ms, rkE - 2))) (tcN c + 1 + cs.length + 1 + 1) 0 ((2 * d + t) :: pre) w ms (fun i hi => by
      have hi' : i < 2 := hi
      rcases (show i = 0 ∨ i = 1 by omega) with z | z
      · rw [z]; exact cK
      · rw [z]; exact cL) (Nat.le_refl _) (nO _ (by omega)) (nO _ (by show tcN c ≤ tcN c + 1 + cs.length + 1 + 1 + 2; omega)) (dU6 _ _ f5) (up1_e (c := mkc c C (tcN c + 1 + cs.length + 1 + 1) D5) (ln := 2)) hp1 (CnC_k cn (fun q y' e => dU6 q y' (dU5 q y' e))) (by show 1000 + 2 ≤ rkE; omega) (by omega) (by omega)) (by omega)
  generalize hD6 : up1 (mkc c C (tcN c + 1 + cs.length + 1 + 1) D5) 2 (u, 0, sh ((2 * d + t) :: pre) w ms, rkE - 2) = D6 at *
  have f6 : D6 (tcN c + 1 + cs.length + 1 + 1 + 2) = some (u, 0, sh ((2 * d + t) :: pre) w ms, rkE - 2) := by rw [← hD6]; exact up1_e (c := mkc c C (tcN c + 1 + cs.length + 1 + 1) D5)
  -- GATHERED
  have dU7 : ∀ q y', D6 q = some y' → up1 (mkc c C (tcN c + 1 + cs.length + 1 + 1 + 2) D6) 1 (u, d + 1, sh pre w ms, R - (cs.length + 6)) q = some y' := fun q y' e => up1_d t6 (Nat.le_refl _) e
  have cn7 : CnC O u p gl Vm nu (mkc c C (tcN c + 1 + cs.length + 1 + 1 + 2 + 1) (up1 (mkc c C (tcN c + 1 + cs.length + 1 + 1 + 2) D6) 1 (u, d + 1, sh pre w ms, R - (cs.length + 6)))) w ms := CnC_k cn (fun q y' e => dU7 q y' (dU6 q y' (dU5 q y' e)))
  have t7 : TI O H nu (R - (cs.length + 6)) (mkc c C (tcN c + 1 + cs.length + 1 + 1 + 2 + 1) (up1 (mkc c C (tcN c + 1 + cs.length + 1 + 1 + 2) D6) 1 (u, d + 1, sh pre w ms, R - (cs.length + 6)))) := TI_s1 (c := mkc c C (tcN c + 1 + cs.length + 1 + 1 + 2) D6) t6 (nO _ (by show tcN c ≤ tcN c + 1 + cs.length + 1 + 1 + 2; omega)) (Nat.le_refl _) (by show tcN c + 1 + cs.length + 1 + 1 + 2 + 1 ≤ _; omega) (fun _ _ => rfl) (fun y ey => by
    have ey' : D6 (tcN c + 1 + cs.length + 1 + 1 + 2) = some y := ey
    rw [f6] at ey'
    cases ey'
    refine OKq_of (op := f) (x := 0) (dU7 _ _ f6) (nO _ (by show tcN c ≤ tcN c + 1 + cs.length + 1 + 1 + 2; omega)) cn.2.1 (Nat.le_refl _) (by omega) (by omega) (Nat.le_refl _) (by show C (tcN c + 1 + cs.length + 1 + 1 + 2) &&& 255 = _; rw [cM]; exact em_lo (by omega)) (by show C (tcN c + 1 + cs.length + 1 + 1 + 2) >>> ((8 : Int32) &&& 31) = _; rw [cM]; exact em_hi (by omega) Sm3_0) (fun c' a hc ro => OKI_5 ⟨by omega, by omega⟩ ⟨fun z => absurd z (by omega), fun z => absurd z (by omega), fun z => absurd z (by omega), fun _ => ⟨2 * d + t, sh pre w ms, rfl, rfl, by omega, ?_⟩, fun z => absurd z (by omega), fun z => absurd z (by omega)⟩)
    rw [show (2 * d + t) / 2 + 1 = d + 1 from by omega]
    exact it_S (R' := R - (cs.length + 6)) a cn7 hp (up1_e (c := mkc c C (tcN c + 1 + cs.length + 1 + 1 + 2) D6) (ln := 1)) (nO _ (by show tcN c ≤ tcN c + 1 + cs.length + 1 + 1 + 2 + 1; omega)) (by omega)) (by omega)
  refine ⟨up1 (mkc c C (tcN c + 1 + cs.length + 1 + 1 + 2) D6) 1 (u, d + 1, sh pre w ms, R - (cs.length + 6)), ?_, fun q hq => ?_, ?_⟩
  · rw [show tcN c + (cs.length + 6) = tcN c + 1 + cs.length + 1 + 1 + 2 + 1 from by omega]; exact t7
  · rw [up1_o (by show ¬ q = tcN c + 1 + cs.length + 1 + 1 + 2 + 1; omega)]
    show D6 q = _
    rw [← hD6, up1_o (by show ¬ q = tcN c + 1 + cs.length + 1 + 1 + 2; omega)]
    exact low q hq
  · rw [show tcN c + (cs.length + 6) = tcN c + 1 + cs.length + 1 + 1 + 2 + 1 from by omega]; exact up1_e (c := mkc c C (tcN c + 1 + cs.length + 1 + 1 + 2) D6)
end CUY
