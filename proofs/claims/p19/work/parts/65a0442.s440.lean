section JnS440
/-! The class: formers and quantifiers, typed. -/
section CUY
variable {c c' c1 c2 : Ct} {O O' H H' : Nat → Prop} {u nu nu' pc ln R R' p p' d rk k op w n m m' q t t' cnt : Nat} {r pre ms ms' xm : List Nat} {x v wd : Int32} {Vm Vm' : Nat → Prop} {cs ins o as : List Int32} {gl : Nat × (Nat → Nat → Prop)} {C : Nat → Int32} {y : Nat × Nat × List Nat × Nat} {nl : List (Nat × Nat × List Nat)} {e0 : Nat × Nat × List Nat}
theorem gd_k {a b : List Int32} {k : Nat} (h : a.length = k) (i : Nat) : (a ++ b).getD (k + i) 0 = b.getD i 0 := by
  rw [← h]; exact gd_r i
/-- all NEXTs of a row are closed: it ends at X; what lies below and behind stays -/
theorem Cl2 {N X rkE : Nat} (hp : ∀ e, e ∈ pre → e < bsl) (cn : (u ≤ nu ∨ u = 41) ∧ u < 42 ∧ tcF c u ≤ w) (hms : ∀ i, i ∈ ms → bsl ≤ i → (i - bsl) % 500000 < p) (rl : RwL p cs nl) (hl : 1 ≤ nl.length) (hX : cs.length ≤ X) (hN : N + X ≤ tcN c) (hc1 : ∀ i, i < cs.length → (∀ e, e ∈ nl → ¬ i = e.1 + 1) → tcC c (N + i) = cs.getD i 0) (hc2 : ∀ e, e ∈ nl → tcC c (N + e.1 + 1) = (cs.set (fstP nl + 1) (nI (X - fstP nl))).getD (e.1 + 1) 0) (ti : TI (fun q => O q ∨ ∃ e, e ∈ nl ∧ q = N + e.1) (fun q => H q ∨ ∃ e, e ∈ nl ∧ q = N + e.1) nu R c) (hH : ∀ q, N ≤ q → q < N + cs.length → ¬ H q) (hO : ∀ q, N ≤ q → ¬ O q) (hDX : tcD c (N + X) = some (u, d, sh pre w ms, rkE)) (hNx : ∀ e, e ∈ nl → NxE u N d pre w ms (tcD c) e) (hr : rkE + nl.length < R) (hR : R ≤ RK) : ∃ D, TI O H nu R (mkc c (tcC c) (tcN c) D) ∧ (∀ q, (∀ e, e ∈ nl → ¬ q = N + e.1) → D q = tcD c q) := by
  have t36 := ti.1
  obtain ⟨ef, ef1, ef2⟩ := fst_m hl
  have lf := RwL_le _ rl ef ef1
  obtain ⟨D, a1, a2, a3⟩ := Cls (p := p) (cs := cs) (N := N) (X := X) (rkE := rkE) (R := R) (d := d) (w := w) (ms := ms) hp cn.1 cn.2.1 (by omega) nl O H c cn.2.2 hms rl (fun e he => by
    rw [hc1 e.1 (by have := RwL_le _ rl e he; omega) (fun f hf => RwL_nc nl rl e f he hf)]
    exact RwL_cd nl rl e he) (fun _ _ _ _ _ _ => trivial) (fun i e hi he => by
    have hm : e ∈ nl := he ▸ gD_mem nl i hi
    rw [hc2 e hm, gd_set]
    by_cases z : i + 1 < nl.length
    · obtain ⟨w1, w2⟩ := RwL_wd nl rl i z
      rw [he] at w1 w2
      have w2' : fstP nl + 2 ≤ e.1 := w2
      rw [if_neg (fun y => by have := y.1; omega), if_pos z]
      exact w1
    · have ei : i = nl.length - 1 := by omega
      have ee : e.1 = fstP nl := by rw [← he, ei]; rfl
      rw [if_pos ⟨by rw [ee], by omega⟩, if_neg z, ee]) (fun e he => by have := RwL_le _ rl e he; omega) hN ti (fun q hq => Or.inl (hO q hq)) (fun e he => by
    have := RwL_le _ rl e he
    exact ⟨hH (N + e.1) (by omega) (by omega), hH (N + e.1 + 1) (by omega) (by omega)⟩) (fun e he => ⟨hO _ (by omega), hO _ (by omega)⟩) (hO _ (by omega)) hDX hNx hr hR
  exact ⟨D, a1, a2⟩
/-- { for .. : .. } or [ for .. : .. ] -/
theorem Sgm_fr {g f : Nat} (hg : (g = 81 ∧ f = 83 ∧ t = 1) ∨ (g = 82 ∧ f = 84 ∧ t = 0)) (h : RwB u p gl Vm p' xm (e0 :: nl) 1 cs) (hs : ∀ i, i = bsl + e0.2.1 ∨ i ∈ e0.2.2 → i ∈ xm) : Sgm u p gl Vm 1 (em 80 0 :: (cs.set (fstP (e0 :: nl) + 1) (nI (cs.length + 2 - fstP (e0 :: nl))) ++ [em g 0, em 3 (nI e0.1 - nI (cs.length + 1)), em 68 (nI p), nI (p' - p), em f 0])) := by
  obtain ⟨h1, h2, h3, h4, h5⟩ := h
  have el : (em 80 0 :: (cs.set (fstP (e0 :: nl) + 1) (nI (cs.length + 2 - fstP (e0 :: nl))) ++ [em g 0, em 3 (nI e0.1 - nI (cs.length + 1)), em 68 (nI p), nI (p' - p), em f 0])).length = cs.length + 6 := by
    rw [List.length_cons, List.length_append, List.length_set]; rfl
  have rk40 : RK = 40000 := rfl
  have bs : bsl = 1000000 := rfl
  refine ⟨by rw [el]; omega, fun O H nu R c d pre w ms C ti no hD hp cn hR1 hR2 hd hN hC1 hC2 => ?_⟩
  rw [el] at hR1 hd hN hC2 ⊢
  have nO := noO_ge ti no
  obtain ⟨ef, ef1, ef2⟩ := fst_m (nl := e0 :: nl) (by show 1 ≤ nl.length + 1; omega)
  have lf := RwL_le _ h4 ef ef1
  have le0 := RwL_le _ h4 e0 List.mem_cons_self
  have lset : (cs.set (fstP (e0 :: nl) + 1) (nI (cs.length + 2 - fstP (e0 :: nl)))).length = cs.length := List.length_set
  have c0 : C (tcN c) = em 80 0 := hC2 0 (by omega)
  have cA : ∀ i, i < cs.length → C (tcN c + 1 + i) = (cs.set (fstP (e0 :: nl) + 1) (nI (cs.length + 2 - fstP (e0 :: nl)))).getD i 0 := fun i hi => by
    have z := hC2 (i + 1) (by omega)
    rw [show tcN c + 1 + i = tcN c + (i + 1) from by omega, z]
    exact gd_l (by rw [lset]; exact hi)
  have cT : ∀ i, i < 5 → C (tcN c + 1 + cs.length + i) = [em g 0, em 3 (nI e0.1 - nI (cs.length + 1)), em 68 (nI p), nI (p' - p), em f 0].getD i 0 := fun i hi => by
    have z := hC2 (cs.length + i + 1) (by omega)
    rw [show tcN c + 1 + cs.length + i = tcN c + (cs.length + i + 1) from by omega, z]
    show (cs.set (fstP (e0 :: nl) + 1) (nI (cs.length + 2 - fstP (e0 :: nl))) ++ _).getD (cs.length + i) 0 = _
    exact gd_k lset i
  have hp1 := pre_c (e0 := 2 * d + t) hp (by omega)
  have dU1 : ∀ q y', tcD c q = some y' → up1 c 1 (u, 0, sh ((2 * d + t) :: pre) w ms, R - 1) q = some y' := fun q y' e => up1_d ti (Nat.le_refl _) e
  -- GATHER
  have t1 : TI O H nu (R - 1) (mkc c C (tcN c + 1) (up1 c 1 (u, 0, sh ((2 * d + t) :: pre) w ms, R - 1))) := TI_s1 ti no (Nat.le_refl _) (by omega) hC1 (fun y ey => by
    rw [hD] at ey
    cases ey
    exact OKq_of (op := 80) (x := 0) (dU1 _ _ hD) no cn.2.1 (Nat.le_refl _) (by omega) (by decide) (Nat.le_refl _) (by show C (tcN c) &&& 255 = _; rw [c0]; exact em_lo (by decide)) (by show C (tcN c) >>> ((8 : Int32) &&& 31) = _; rw [c0]; exact em_hi (by decide) Sm3_0) (fun c' a hc ro => OKI_5 (by decide) ⟨fun _ => ⟨t, by omega, by omega, it_N (R' := R - 1) a (CnC_k cn dU1) hp1 up1_e (nO _ (by omega)) (by omega)⟩, fun z => absurd z (by decide), fun z => absurd z (by decide), fun z => absurd z (by decide), fun z => absurd z (by decide), fun z => absurd z (by decide)⟩)) (by omega)
  obtain ⟨D2, t2, e2, f2, k2⟩ := h5 O H nu (R - 1) (mkc c C (tcN c + 1) (up1 c 1 (u, 0, sh ((2 * d + t) :: pre) w ms, R - 1))) 0 ((2 * d + t) :: pre) w ms C t1 (nO _ (by show tcN c ≤ tcN c + 1; omega)) up1_e hp1 (CnC_k cn dU1) (by omega) (by omega) (by omega) (by show tcN c + 1 + cs.length ≤ _; omega) (fun _ _ => rfl) (fun i hi hh => by
    show C (tcN c + 1 + i) = _
    rw [cA i hi, gd_set, if_neg (fun z => hh ef ef1 (by rw [ef2]; exact z.1))])
  have cnA := CnC_k (C := C) (N := tcN c + 1) cn dU1
  have nO2 : ∀ q, tcN c + 1 + cs.length ≤ q → ¬ (O q ∨ ∃ e, e ∈ e0 :: nl ∧ q = tcN c + 1 + e.1) := noO_nl t1 (nO _ (by show tcN c ≤ tcN c + 1; omega)) h4
  have hu := cn.1
  have btw : ∀ (X : List Nat) (d' : Nat), tcF c u ≤ bt d' (sh ((2 * d + t) :: pre) w X) := fun X d' => by rw [sh_bt _ _ hp1]; exact cn.2.2.1
  have l1 : (e0 :: nl).length = nl.length + 1 := rfl
  have ll := h3.1
  have t2' : TI (fun q => O q ∨ ∃ e, e ∈ e0 :: nl ∧ q = tcN c + 1 + e.1) (fun q => H q ∨ ∃ e, e ∈ e0 :: nl ∧ q = tcN c + 1 + e.1) nu (R - 1 - cs.length + (e0 :: nl).length) (mkc c C (tcN c + 1 + cs.length) D2) := t2
  have f2' : D2 (tcN c + 1 + cs.length) = some (u, 0 + 1, sh ((2 * d + t) :: pre) w (xm ++ ms), R - 1 - cs.length + (e0 :: nl).length) := f2
  have k2' : ∀ e, e ∈ e0 :: nl → NxE u (tcN c + 1) 0 ((2 * d + t) :: pre) w ms D2 e := k2
  have cG : C (tcN c + 1 + cs.length) = em g 0 := cT 0 (by decide)
  have cJ : C (tcN c + 1 + cs.length + 1) = em 3 (nI e0.1 - nI (cs.length + 1)) := cT 1 (by decide)
  have cK : C (tcN c + 1 + cs.length + 1 + 1) = em 68 (nI p) := cT 2 (by decide)
  have cL : C (tcN c + 1 + cs.length + 1 + 1 + 1) = nI (p' - p) := cT 3 (by decide)
  have cM : C (tcN c + 1 + cs.length + 1 + 1 + 2) = em f 0 := cT 4 (by decide)
  generalize hQ : R - 1 - cs.length + (e0 :: nl).length = Q at *
  -- GATHER_SET, GATHER_TUPLE
  have dU3 : ∀ q y', D2 q = some y' → up1 (mkc c C (tcN c + 1 + cs.length) D2) 1 (u, 0, sh ((2 * d + t) :: pre) w (xm ++ ms), Q - 1) q = some y' := fun q y' e => up1_d t2' (Nat.le_refl _) e
  have t3 : TI (fun q => O q ∨ ∃ e, e ∈ e0 :: nl ∧ q = tcN c + 1 + e.1) (fun q => H q ∨ ∃ e, e ∈ e0 :: nl ∧ q = tcN c + 1 + e.1) nu (Q - 1) (mkc c C (tcN c + 1 + cs.length + 1) (up1 (mkc c C (tcN c + 1 + cs.length) D2) 1 (u, 0, sh ((2 * d + t) :: pre) w (xm ++ ms), Q - 1))) := TI_s1 (c := mkc c C (tcN c + 1 + cs.length) D2) t2' (nO2 _ (Nat.le_refl _)) (Nat.le_refl _) (by show tcN c + 1 + cs.length + 1 ≤ _; omega) (fun _ _ => rfl) (fun y ey => by
    have ey' : D2 (tcN c + 1 + cs.length) = some y := ey
    rw [f2'] at ey'
    cases ey'
    refine OKq_of (op := g) (x := 0) (dU3 _ _ f2') (nO2 _ (Nat.le_refl _)) cn.2.1 (Nat.le_refl _) (by omega) (by omega) (Nat.le_refl _) (by show C (tcN c + 1 + cs.length) &&& 255 = _; rw [cG]; exact em_lo (by omega)) (by show C (tcN c + 1 + cs.length) >>> ((8 : Int32) &&& 31) = _; rw [cG]; exact em_hi (by omega) Sm3_0) (fun c' a hc ro => OKI_5 ⟨by omega, by omega⟩ ?_)
    have nx : Nx c' (tcN c + 1 + cs.length + 1) u 0 (sh ((2 * d + t) :: pre) w (xm ++ ms)) Q := nx_of a hu (up1_e (c := mkc c C (tcN c + 1 + cs.length) D2) (ln := 1)) (nO2 _ (by show tcN c + 1 + cs.length ≤ tcN c + 1 + cs.length + 1; omega)) (Rsh_r _ _) (btw _ _) (btw _ _) (by omega)
    rcases hg with ⟨hg, _, ht⟩ | ⟨hg, _, ht⟩
    · subst hg
      exact ⟨fun z => absurd z (by decide), fun _ => ⟨2 * d + t, sh pre w (xm ++ ms), rfl, rfl, by omega, by omega, nx⟩, fun z => absurd z (by decide), fun z => absurd z (by decide), fun z => absurd z (by decide), fun z => absurd z (by decide)⟩
    · subst hg
      exact ⟨fun z => absurd z (by decide), fun z => absurd z (by decide), fun _ => ⟨2 * d + t, sh pre w (xm ++ ms), rfl, rfl, by omega, by omega, nx⟩, fun z => absurd z (by decide), fun z => absurd z (by decide), fun z => absurd z (by decide)⟩) (by omega)
  generalize hD3 : up1 (mkc c C (tcN c + 1 + cs.length) D2) 1 (u, 0, sh ((2 * d + t) :: pre) w (xm ++ ms), Q - 1) = D3 at *
  have f3 : D3 (tcN c + 1 + cs.length + 1) = some (u, 0, sh ((2 * d + t) :: pre) w (xm ++ ms), Q - 1) := by rw [← hD3]; exact up1_e (c := mkc c C (tcN c + 1 + cs.length) D2)
  have e3 : ∀ q, q ≤ tcN c + 1 + cs.length → D3 q = D2 q := fun q hq => by rw [← hD3]; exact up1_o (by show ¬ q = tcN c + 1 + cs.length + 1; omega)
  -- JUMP
  let rkE := R - (cs.length + 3)
  have rkq : rkE + (e0 :: nl).length + 1 = Q - 1 := by show R - (cs.length + 3) + (e0 :: nl).length + 1 = Q - 1; omega
  have dU4 : ∀ q y', D3 q = some y' → up1 (mkc c C (tcN c + 1 + cs.length + 1) D3) 1 (u, 0, sh ((2 * d + t) :: pre) w ms, rkE) q = some y' := fun q y' e => up1_d t3 (Nat.le_refl _) e
  obtain ⟨⟨ra, a1⟩, _⟩ := k2' e0 List.mem_cons_self
  have t4 : TI (fun q => O q ∨ ∃ e, e ∈ e0 :: nl ∧ q = tcN c + 1 + e.1) (fun q => H q ∨ ∃ e, e ∈ e0 :: nl ∧ q = tcN c + 1 + e.1) nu (Q - 1) (mkc c C (tcN c + 1 + cs.length + 1 + 1) (up1 (mkc c C (tcN c + 1 + cs.length + 1) D3) 1 (u, 0, sh ((2 * d + t) :: pre) w ms, rkE))) := TI_s1 (c := mkc c C (tcN c + 1 + cs.length + 1) D3) t3 (nO2 _ (by show tcN c + 1 + cs.length ≤ tcN c + 1 + cs.length + 1; omega)) (Nat.le_refl _) (by show tcN c + 1 + cs.length + 1 + 1 ≤ _; omega) (fun _ _ => rfl) (fun y ey => by
    have ey' : D3 (tcN c + 1 + cs.length + 1) = some y := ey
    rw [f3] at ey'
    cases ey'
    refine OKq_of (op := 3) (x := nI e0.1 - nI (cs.length + 1)) (dU4 _ _ f3) (nO2 _ (by show tcN c + 1 + cs.length ≤ tcN c + 1 + cs.length + 1; omega)) cn.2.1 (Nat.le_refl _) (by omega) (by decide) (Nat.le_refl _) (by show C (tcN c + 1 + cs.length + 1) &&& 255 = _; rw [cJ]; exact em_lo (by decide)) (by show C (tcN c + 1 + cs.length + 1) >>> ((8 : Int32) &&& 31) = _; rw [cJ]; exact em_hi (by decide) (Sm3_s (by omega) (by omega))) (fun c' a hc ro => OKI_1 (by decide) ⟨fun z => absurd z (by decide), fun _ => ?_, fun z => absurd z (by decide), fun z => absurd z (by decide), fun z => absurd z (by decide)⟩)
    show Nx c' (uN (nI (tcN c + 1 + cs.length + 1) + (nI e0.1 - nI (cs.length + 1)))) u 0 (sh ((2 * d + t) :: pre) w (xm ++ ms)) (Q - 1)
    rw [show tcN c + 1 + cs.length + 1 = tcN c + 1 + (cs.length + 1) from by omega, tg_b (by omega) (by omega)]
    exact nxO_of a hu ro (dU4 _ _ ((e3 _ (by omega)).trans a1)) (Or.inr ⟨e0, List.mem_cons_self, rfl⟩) (shRsh 0 hp1 (fun i hi => by
      rcases List.mem_cons.1 hi with z | z
      · exact List.mem_append_left _ (hs i (Or.inl z))
      · rcases List.mem_append.1 z with z | z
        · exact List.mem_append_left _ (hs i (Or.inr z))
        · exact List.mem_append_right _ z)) (btw _ _) (btw _ _) (Nat.le_refl _)) (Nat.le_refl _)
  generalize hD4 : up1 (mkc c C (tcN c + 1 + cs.length + 1) D3) 1 (u, 0, sh ((2 * d + t) :: pre) w ms, rkE) = D4 at *
  have f4 : D4 (tcN c + 1 + cs.length + 1 + 1) = some (u, 0, sh ((2 * d + t) :: pre) w ms, rkE) := by rw [← hD4]; exact up1_e (c := mkc c C (tcN c + 1 + cs.length + 1) D3)
  have e4 : ∀ q, q ≤ tcN c + 1 + cs.length + 1 → D4 q = D3 q := fun q hq => by rw [← hD4]; exact up1_o (by show ¬ q = tcN c + 1 + cs.length + 1 + 1; omega)
  have e42 : ∀ q, q ≤ tcN c + 1 + cs.length → D4 q = D2 q := fun q hq => (e4 q (by omega)).trans (e3 q hq)
  -- the end
  obtain ⟨D5, t5, e5⟩ := Cl2 (c := mkc c C (tcN c + 1 + cs.length + 1 + 1) D4) (N := tcN c + 1) (X := cs.length + 2) (rkE := rkE) (R := Q - 1) (O := O) (H := H) (nu := nu) (u := u) (d := 0) (pre := (2 * d + t) :: pre) (w := w) (ms := ms) (p := p) (cs := cs) (nl := e0 :: nl) hp1 ⟨hu, cn.2.1, cn.2.2.1⟩ cn.2.2.2.2.2.1 h4 (by omega) (by omega) (by show tcN c + 1 + (cs.length + 2) ≤ tcN c + 1 + cs.length + 1 + 1; omega) (fun i hi hh => by
    show C (tcN c + 1 + i) = _
    rw [cA i hi, gd_set, if_neg (fun z => hh ef ef1 (by rw [ef2]; exact z.1))]) (fun e he => by
    have := RwL_le _ h4 e he
    show C (tcN c + 1 + e.1 + 1) = _
    rw [Nat.add_assoc (tcN c + 1), cA _ (by omega)]) t4 (fun q hq _ z => by have := ti.2.2.1 q z; omega) (fun q hq => nO q (by omega)) (by
    show D4 (tcN c + 1 + (cs.length + 2)) = _
    exact f4) (fun e he => by
    have le := RwL_le _ h4 e he
    obtain ⟨⟨ra, b1⟩, b2, rb, b3, b4⟩ := k2' e he
    exact ⟨⟨ra, (e42 _ (by omega)).trans b1⟩, (e42 _ (by omega)).trans b2, rb, b3, (e42 _ (by omega)).trans b4⟩) (by omega) (by omega)
  have t5' : TI O H nu (Q - 1) (mkc c C (tcN c + 1 + cs.length + 1 + 1) D5) := t5
  have e5' : ∀ q, (∀ e, e ∈ e0 :: nl → ¬ q = tcN c + 1 + e.1) → D5 q = D4 q := e5
  have f5 : D5 (tcN c + 1 + cs.length + 1 + 1) = some (u, 0, sh ((2 * d + t) :: pre) w ms, rkE) := by
    rw [e5' _ (fun e he => by have := RwL_le _ h4 e he; omega)]; exact f4
  have low : ∀ q, q ≤ tcN c → D5 q = tcD c q := fun q hq => by
    rw [e5' _ (fun e he => by omega), e42 q (by omega), e2 q (by show q ≤ tcN c + 1; omega)]
    exact up1_o (by omega)
  have dU5 : ∀ q y', tcD c q = some y' → D5 q = some y' := dd_of ti low
  have t5'' := TI_R t5' (R' := rkE) (by omega)
  have rkv : rkE = R - (cs.length + 3) := rfl
  -- CLEAR
  have dU6 : ∀ q y', D5 q = some y' → up1 (mkc c C (tcN c + 1 + cs.length + 1 + 1) D5) 2 (u, 0, sh ((2 * d + t) :: pre) w ms, rkE - 2) q = some y' := fun q y' e => up1_d t5'' (by decide) e
  have t6 : TI O H nu (rkE - 2) (mkc c C (tcN c + 1 + cs.length + 1 + 1 + 2) (up1 (mkc c C (tcN c + 1 + cs.length + 1 + 1) D5) 2 (u, 0, sh ((2 * d + t) :: pre) w ms, rkE - 2))) := TI_s1 (c := mkc c C (tcN c + 1 + cs.length + 1 + 1) D5) t5'' (nO _ (by show tcN c ≤ tcN c + 1 + cs.length + 1 + 1; omega)) (by decide) (by show tcN c + 1 + cs.length + 1 + 1 + 2 ≤ _; omega) (fun _ _ => rfl) (fun y ey => by
    have ey' : D5 (tcN c + 1 + cs.length + 1 + 1) = some y := ey
    rw [f5] at ey'
    cases ey'
    exact It_cl (u := u) (p := p) (gl := gl) (Vm := Vm) (m := 0) (k := p' - p) (by omega) O nu rkE (mkc c C (tcN c + 1 + cs.length + 1 + 1 + 2) (up1 (mkc c C (tcN c + 1 + cs.length + 1 + 1) D5) 2 (u, 0, sh ((2 * d + t) :: pre) w ms, rkE - 2))) (tcN c + 1 + cs.length + 1 + 1) 0 ((2 * d + t) :: pre) w ms (fun i hi => by
      have hi' : i < 2 := hi
      rcases (show i = 0 ∨ i = 1 by omega) with z | z
      · rw [z]; exact cK
      · rw [z]; exact cL) (Nat.le_refl _) (nO _ (by omega)) (nO _ (by show tcN c ≤ tcN c + 1 + cs.length + 1 + 1 + 2; omega)) (dU6 _ _ f5) (up1_e (c := mkc c C (tcN c + 1 + cs.length + 1 + 1) D5) (ln := 2)) hp1 (CnC_k cn (fun q y' e => dU6 q y' (dU5 q y' e))) (by show 1000 + 2 ≤ rkE; omega) (by omega) (by omega)) (by omega)
  generalize hD6 : up1 (mkc c C (tcN c + 1 + cs.length + 1 + 1) D5) 2 (u, 0, sh ((2 * d + t) :: pre) w ms, rkE - 2) = D6 at *
  have f6 : D6 (tcN c + 1 + cs.length + 1 + 1 + 2) = some (u, 0, sh ((2 * d + t) :: pre) w ms, rkE - 2) := by rw [← hD6]; exact up1_e (c := mkc c C (tcN c + 1 + cs.length + 1 + 1) D5)
  -- GATHERED
  have dU7 : ∀ q y', D6 q = some y' → up1 (mkc c C (tcN c + 1 + cs.length + 1 + 1 + 2) D6) 1 (u, d + 1, sh pre w ms, R - (cs.length + 6)) q = some y' := fun q y' e => up1_d t6 (Nat.le_refl _) e
  have cn7 : CnC O u p gl Vm nu (mkc c C (tcN c + 1 + cs.length + 1 + 1 + 2 + 1) (up1 (mkc c C (tcN c + 1 + cs.length + 1 + 1 + 2) D6) 1 (u, d + 1, sh pre w ms, R - (cs.length + 6)))) w ms := CnC_k cn (fun q y' e => dU7 q y' (dU6 q y' (dU5 q y' e)))
  have t7 : TI O H nu (R - (cs.length + 6)) (mkc c C (tcN c + 1 + cs.length + 1 + 1 + 2 + 1) (up1 (mkc c C (tcN c + 1 + cs.length + 1 + 1 + 2) D6) 1 (u, d + 1, sh pre w ms, R - (cs.length + 6)))) := TI_s1 (c := mkc c C (tcN c + 1 + cs.length + 1 + 1 + 2) D6) t6 (nO _ (by show tcN c ≤ tcN c + 1 + cs.length + 1 + 1 + 2; omega)) (Nat.le_refl _) (by show tcN c + 1 + cs.length + 1 + 1 + 2 + 1 ≤ _; omega) (fun _ _ => rfl) (fun y ey => by
    have ey' : D6 (tcN c + 1 + cs.length + 1 + 1 + 2) = some y := ey
    rw [f6] at ey'
    cases ey'
    refine OKq_of (op := f) (x := 0) (dU7 _ _ f6) (nO _ (by show tcN c ≤ tcN c + 1 + cs.length + 1 + 1 + 2; omega)) cn.2.1 (Nat.le_refl _) (by omega) (by omega) (Nat.le_refl _) (by show C (tcN c + 1 + cs.length + 1 + 1 + 2) &&& 255 = _; rw [cM]; exact em_lo (by omega)) (by show C (tcN c + 1 + cs.length + 1 + 1 + 2) >>> ((8 : Int32) &&& 31) = _; rw [cM]; exact em_hi (by omega) Sm3_0) (fun c' a hc ro => OKI_5 ⟨by omega, by omega⟩ ⟨fun z => absurd z (by omega), fun z => absurd z (by omega), fun z => absurd z (by omega), fun _ => ⟨2 * d + t, sh pre w ms, rfl, rfl, by omega, ?_⟩, fun z => absurd z (by omega), fun z => absurd z (by omega)⟩)
    rw [show (2 * d + t) / 2 + 1 = d + 1 from by omega]
    exact it_S (R' := R - (cs.length + 6)) a cn7 hp (up1_e (c := mkc c C (tcN c + 1 + cs.length + 1 + 1 + 2) D6) (ln := 1)) (nO _ (by show tcN c ≤ tcN c + 1 + cs.length + 1 + 1 + 2 + 1; omega)) (by omega)) (by omega)
  refine ⟨up1 (mkc c C (tcN c + 1 + cs.length + 1 + 1 + 2) D6) 1 (u, d + 1, sh pre w ms, R - (cs.length + 6)), ?_, fun q hq => ?_, ?_⟩
  · rw [show tcN c + (cs.length + 6) = tcN c + 1 + cs.length + 1 + 1 + 2 + 1 from by omega]; exact t7
  · rw [up1_o (by show ¬ q = tcN c + 1 + cs.length + 1 + 1 + 2 + 1; omega)]
    show D6 q = _
    rw [← hD6, up1_o (by show ¬ q = tcN c + 1 + cs.length + 1 + 1 + 2; omega)]
    exact low q hq
  · rw [show tcN c + (cs.length + 6) = tcN c + 1 + cs.length + 1 + 1 + 2 + 1 from by omega]; exact up1_e (c := mkc c C (tcN c + 1 + cs.length + 1 + 1 + 2) D6)
end CUY
end JnS440
section JnS441
/-! The class: quantifiers, typed. -/
section CUZ
variable {c c' c1 c2 : Ct} {O O' H H' : Nat → Prop} {u nu nu' pc ln R R' p p' d rk k op w n m m' q t t' cnt : Nat} {r pre ms ms' xm : List Nat} {x v wd tv fv : Int32} {Vm Vm' : Nat → Prop} {cs ins o as : List Int32} {gl : Nat × (Nat → Nat → Prop)} {C : Nat → Int32} {y : Nat × Nat × List Nat × Nat} {nl : List (Nat × Nat × List Nat)} {e0 : Nat × Nat × List Nat}
/-- an instruction of a kind that is told by Itc, laid at the end of what is typed -/
theorem TI_it (it : Itc u p gl Vm m m' ins) (hl : 1 ≤ ins.length) (t : TI O H nu R c) (no : ∀ q, tcN c ≤ q → ¬ O q) (hD : tcD c (tcN c) = some (u, d + m, sh pre w ms, R)) (hp : ∀ e, e ∈ pre → e < bsl) (cn : CnC O u p gl Vm nu c w ms) (hR1 : 1000 + ins.length ≤ R) (hR2 : R ≤ RK) (hd : d + m ≤ 100000 ∧ d + m' ≤ 100000) (hN : tcN c + ins.length ≤ 36864) (hC1 : ∀ i, i < tcN c → C i = tcC c i) (hC2 : ∀ i, i < ins.length → C (tcN c + i) = ins.getD i 0) : TI O H nu (R - ins.length) (mkc c C (tcN c + ins.length) (up1 c ins.length (u, d + m', sh pre w ms, R - ins.length))) := TI_s1 t (no _ (Nat.le_refl _)) hl hN hC1 (fun y ey => by
  rw [hD] at ey
  cases ey
  exact it O nu R (mkc c C (tcN c + ins.length) (up1 c ins.length (u, d + m', sh pre w ms, R - ins.length))) (tcN c) d pre w ms hC2 (Nat.le_refl _) (no _ (Nat.le_refl _)) (no _ (Nat.le_add_right _ _)) (up1_d t hl hD) up1_e hp (CnC_k cn (fun q y' e => up1_d t hl e)) hR1 hR2 hd) (Nat.sub_le _ _)
/-- exists .. | .. or forall .. | .. -/
theorem Sgm_qu (h : RwB u p gl Vm p' xm (e0 :: nl) 0 cs) (ht : LitG tv) (hf : LitG fv) : Sgm u p gl Vm 1 (cs.set (fstP (e0 :: nl) + 1) (nI (cs.length + 3 - fstP (e0 :: nl))) ++ [em 32 0, tv, em 3 (nI 3), em 32 0, fv, em 68 (nI p), nI (p' - p), em 40 0]) := by
  obtain ⟨h1, h2, h3, h4, h5⟩ := h
  have el : (cs.set (fstP (e0 :: nl) + 1) (nI (cs.length + 3 - fstP (e0 :: nl))) ++ [em 32 0, tv, em 3 (nI 3), em 32 0, fv, em 68 (nI p), nI (p' - p), em 40 0]).length = cs.length + 8 := by
    rw [List.length_append, List.length_set]; rfl
  have rk40 : RK = 40000 := rfl
  have bs : bsl = 1000000 := rfl
  refine ⟨by rw [el]; omega, fun O H nu R c d pre w ms C ti no hD hp cn hR1 hR2 hd hN hC1 hC2 => ?_⟩
  rw [el] at hR1 hd hN hC2 ⊢
  have nO := noO_ge ti no
  obtain ⟨ef, ef1, ef2⟩ := fst_m (nl := e0 :: nl) (by show 1 ≤ nl.length + 1; omega)
  have lf := RwL_le _ h4 ef ef1
  have lset : (cs.set (fstP (e0 :: nl) + 1) (nI (cs.length + 3 - fstP (e0 :: nl)))).length = cs.length := List.length_set
  have cA : ∀ i, i < cs.length → C (tcN c + i) = (cs.set (fstP (e0 :: nl) + 1) (nI (cs.length + 3 - fstP (e0 :: nl)))).getD i 0 := fun i hi => by
    rw [hC2 i (by omega)]
    exact gd_l (by rw [lset]; exact hi)
  have cT : ∀ i, i < 8 → C (tcN c + cs.length + i) = [em 32 0, tv, em 3 (nI 3), em 32 0, fv, em 68 (nI p), nI (p' - p), em 40 0].getD i 0 := fun i hi => by
    rw [show tcN c + cs.length + i = tcN c + (cs.length + i) from by omega, hC2 _ (by omega)]
    exact gd_k lset i
  obtain ⟨D2, t2, e2, f2, k2⟩ := h5 O H nu R c d pre w ms C ti no hD hp cn (by omega) (by omega) (by omega) (by omega) hC1 (fun i hi hh => by
    rw [cA i hi, gd_set, if_neg (fun z => hh ef ef1 (by rw [ef2]; exact z.1))])
  have nO2 : ∀ q, tcN c + cs.length ≤ q → ¬ (O q ∨ ∃ e, e ∈ e0 :: nl ∧ q = tcN c + e.1) := noO_nl ti no h4
  have hu := cn.1
  have btw : ∀ (X : List Nat) (d' : Nat), tcF c u ≤ bt d' (sh pre w X) := fun X d' => by rw [sh_bt _ _ hp]; exact cn.2.2.1
  have l1 : (e0 :: nl).length = nl.length + 1 := rfl
  have ll := h3.1
  have dU2 : ∀ q y', tcD c q = some y' → D2 q = some y' := dd_of ti e2
  have cnA := CnC_n (C := C) (N := tcN c + cs.length) (Vm' := Vm) ti cn hD e2 k2 h1 h2 (fun i hi => Or.inl hi)
  generalize hQ : R - cs.length + (e0 :: nl).length = Q at *
  -- PUSH
  have t3 := TI_it (C := C) (It_pu (v := tv) (u := u) (p := p') (gl := gl) (Vm := Vm) ht) (by show 1 ≤ 2; decide) t2 nO2 f2 hp cnA (by show 1000 + 2 ≤ Q; omega) (by omega) ⟨by omega, by omega⟩ (by show tcN c + cs.length + 2 ≤ _; omega) (fun _ _ => rfl) (fun i hi => by
    have hi' : i < 2 := hi
    rcases (show i = 0 ∨ i = 1 by omega) with z | z
    · rw [z]; exact cT 0 (by decide)
    · rw [z]; exact cT 1 (by decide))
  have t3' : TI (fun q => O q ∨ ∃ e, e ∈ e0 :: nl ∧ q = tcN c + e.1) (fun q => H q ∨ ∃ e, e ∈ e0 :: nl ∧ q = tcN c + e.1) nu (Q - 2) (mkc c C (tcN c + cs.length + 2) (up1 (mkc c C (tcN c + cs.length) D2) 2 (u, d + 1, sh pre w (xm ++ ms), Q - 2))) := t3
  generalize hD3 : up1 (mkc c C (tcN c + cs.length) D2) 2 (u, d + 1, sh pre w (xm ++ ms), Q - 2) = D3 at *
  have f3 : D3 (tcN c + cs.length + 2) = some (u, d + 1, sh pre w (xm ++ ms), Q - 2) := by rw [← hD3]; exact up1_e (c := mkc c C (tcN c + cs.length) D2)
  have e3 : ∀ q, q ≤ tcN c + cs.length → D3 q = D2 q := fun q hq => by rw [← hD3]; exact up1_o (by show ¬ q = tcN c + cs.length + 2; omega)
  -- JUMP, still to be aimed; behind it the row's end
  let rkE := R - (cs.length + 3)
  have rkv : rkE = R - (cs.length + 3) := rfl
  have t4 : TI (fun q => O q ∨ ∃ e, e ∈ e0 :: nl ∧ q = tcN c + e.1) (fun q => (H q ∨ ∃ e, e ∈ e0 :: nl ∧ q = tcN c + e.1) ∨ (q = tcN c + cs.length + 2 ∧ True)) nu (Q - 2) (mkc c C (tcN c + cs.length + 2 + 1) (up1 (mkc c C (tcN c + cs.length + 2) D3) 1 (u, d, sh pre w ms, rkE))) := TI_em (ln := 1) (y := some (u, d, sh pre w ms, rkE)) (Hn := True) (On := False) t3' (Nat.le_refl _) (by show tcN c + cs.length + 2 + 1 ≤ _; omega) (fun _ _ => rfl) rfl ⟨⟨rfl, rfl⟩, rfl, rfl⟩ (fun q => rfl) (fun q => ⟨Or.inl, fun z => z.elim id (fun w => w.2.elim)⟩) (fun z => z.elim) (fun q => Iff.rfl) (fun _ => trivial) (fun z => absurd trivial z) (Nat.le_refl _)
  have dU4 : ∀ q y', D3 q = some y' → up1 (mkc c C (tcN c + cs.length + 2) D3) 1 (u, d, sh pre w ms, rkE) q = some y' := fun q y' e => up1_d t3' (Nat.le_refl _) e
  generalize hD4 : up1 (mkc c C (tcN c + cs.length + 2) D3) 1 (u, d, sh pre w ms, rkE) = D4 at *
  have f4 : D4 (tcN c + cs.length + 2 + 1) = some (u, d, sh pre w ms, rkE) := by rw [← hD4]; exact up1_e (c := mkc c C (tcN c + cs.length + 2) D3)
  have e4 : ∀ q, q ≤ tcN c + cs.length + 2 → D4 q = D3 q := fun q hq => by rw [← hD4]; exact up1_o (by show ¬ q = tcN c + cs.length + 2 + 1; omega)
  have e42 : ∀ q, q ≤ tcN c + cs.length → D4 q = D2 q := fun q hq => (e4 q (by omega)).trans (e3 q hq)
  -- the end
  obtain ⟨D5, t5, e5⟩ := Cl2 (c := mkc c C (tcN c + cs.length + 2 + 1) D4) (N := tcN c) (X := cs.length + 3) (rkE := rkE) (R := Q - 2) (O := O) (H := fun q => H q ∨ q = tcN c + cs.length + 2) (nu := nu) (u := u) (d := d) (pre := pre) (w := w) (ms := ms) (p := p) (cs := cs) (nl := e0 :: nl) hp ⟨hu, cn.2.1, cn.2.2.1⟩ cn.2.2.2.2.2.1 h4 (by omega) (by omega) (by show tcN c + (cs.length + 3) ≤ tcN c + cs.length + 2 + 1; omega) (fun i hi hh => by
    show C (tcN c + i) = _
    rw [cA i hi, gd_set, if_neg (fun z => hh ef ef1 (by rw [ef2]; exact z.1))]) (fun e he => by
    have := RwL_le _ h4 e he
    show C (tcN c + e.1 + 1) = _
    rw [Nat.add_assoc (tcN c), cA _ (by omega)]) (TI_oh t4 (fun q => Iff.rfl) (fun q => by
      constructor
      · rintro ((z | z) | z)
        · exact Or.inl (Or.inl z)
        · exact Or.inr ⟨z, trivial⟩
        · exact Or.inl (Or.inr z)
      · rintro ((z | z) | z)
        · exact Or.inl (Or.inl z)
        · exact Or.inr z
        · exact Or.inl (Or.inr z.1))) (fun q hq hq2 z => by
    rcases z with z | z
    · have := ti.2.2.1 q z; omega
    · omega) (fun q hq => nO q (by omega)) f4 (fun e he => by
    have le := RwL_le _ h4 e he
    obtain ⟨⟨ra, b1⟩, b2, rb, b3, b4⟩ := k2 e he
    exact ⟨⟨ra, (e42 _ (by omega)).trans b1⟩, (e42 _ (by omega)).trans b2, rb, b3, (e42 _ (by omega)).trans b4⟩) (by omega) (by omega)
  have t5' : TI O (fun q => H q ∨ q = tcN c + cs.length + 2) nu (Q - 2) (mkc c C (tcN c + cs.length + 2 + 1) D5) := t5
  have e5' : ∀ q, (∀ e, e ∈ e0 :: nl → ¬ q = tcN c + e.1) → D5 q = D4 q := e5
  have f5 : D5 (tcN c + cs.length + 2 + 1) = some (u, d, sh pre w ms, rkE) := by
    rw [e5' _ (fun e he => by have := RwL_le _ h4 e he; omega)]; exact f4
  have f5j : D5 (tcN c + cs.length + 2) = some (u, d + 1, sh pre w (xm ++ ms), Q - 2) := by
    rw [e5' _ (fun e he => by have := RwL_le _ h4 e he; omega), e4 _ (Nat.le_refl _)]; exact f3
  have lt0 : ∀ e, e ∈ e0 :: nl → 1 ≤ e.1 := fun e he => by
    obtain ⟨⟨ra, b1⟩, _⟩ := k2 e he
    rcases Nat.eq_zero_or_pos e.1 with z | z
    · rw [z] at b1
      have k3 : D2 (tcN c) = _ := b1
      rw [e2 _ (Nat.le_refl _), hD] at k3
      have k4 := congrArg (fun s => match s with | some s => s.2.2.1 | none => []) k3
      have k5 : sh pre w ms = sh pre w ((bsl + e.2.1) :: (e.2.2 ++ ms)) := k4
      have k6 := congrArg List.length k5
      rw [List.length_append, List.length_append, List.length_cons, List.length_cons, List.length_cons, List.length_append] at k6
      omega
    · exact z
  have low : ∀ q, q ≤ tcN c → D5 q = tcD c q := fun q hq => by
    rw [e5' _ (fun e he => by have := lt0 e he; omega), e42 q (by omega)]
    exact e2 q hq
  have dU5 : ∀ q y', tcD c q = some y' → D5 q = some y' := dd_of ti low
  have t5'' := TI_R t5' (R' := rkE) (by omega)
  -- PUSH
  have t6 := TI_it (C := C) (d := d) (It_pu (v := fv) (u := u) (p := p) (gl := gl) (Vm := Vm) hf) (by show 1 ≤ 2; decide) t5'' (fun q hq => nO q (by have : tcN c + cs.length + 2 + 1 ≤ q := hq; omega)) f5 hp (CnC_k cn dU5) (by show 1000 + 2 ≤ rkE; omega) (by omega) ⟨by omega, by omega⟩ (by show tcN c + cs.length + 2 + 1 + 2 ≤ _; omega) (fun _ _ => rfl) (fun i hi => by
    have hi' : i < 2 := hi
    rcases (show i = 0 ∨ i = 1 by omega) with z | z
    · rw [z]; exact cT 3 (by decide)
    · rw [z]; exact cT 4 (by decide))
  have t6' : TI O (fun q => H q ∨ q = tcN c + cs.length + 2) nu (rkE - 2) (mkc c C (tcN c + cs.length + 2 + 1 + 2) (up1 (mkc c C (tcN c + cs.length + 2 + 1) D5) 2 (u, d + 1, sh pre w ms, rkE - 2))) := t6
  have dU6 : ∀ q y', D5 q = some y' → up1 (mkc c C (tcN c + cs.length + 2 + 1) D5) 2 (u, d + 1, sh pre w ms, rkE - 2) q = some y' := fun q y' e => up1_d t5'' (by decide) e
  generalize hD6 : up1 (mkc c C (tcN c + cs.length + 2 + 1) D5) 2 (u, d + 1, sh pre w ms, rkE - 2) = D6 at *
  have f6 : D6 (tcN c + cs.length + 2 + 1 + 2) = some (u, d + 1, sh pre w ms, rkE - 2) := by rw [← hD6]; exact up1_e (c := mkc c C (tcN c + cs.length + 2 + 1) D5)
  have cJ : C (tcN c + cs.length + 2) = em 3 (nI 3) := cT 2 (by decide)
  have t7 : TI O H nu (rkE - 2) (mkc c C (tcN c + cs.length + 2 + 1 + 2) D6) := by
    refine TI_fi (h := tcN c + cs.length + 2) (ln := 1) t6' (Nat.le_refl _) (Or.inr rfl) (nO _ (by omega)) (by show tcN c + cs.length + 2 + 1 ≤ tcN c + cs.length + 2 + 1 + 2; omega) (fun _ _ => rfl) rfl (dU6 _ _ f5j) (fun i y h1 h2 => absurd h1 (by omega)) (fun h' hh => by omega) (fun q => ?_) ?_
    · refine ⟨fun z => ⟨Or.inl z, fun e => ?_⟩, fun z => z.1.elim id (fun e => absurd e z.2)⟩
      have := ti.2.2.1 q z
      omega
    · have z := OKq_of (O := O) (nu := nu) (c := mkc c C (tcN c + cs.length + 2 + 1 + 2) D6) (pc := tcN c + cs.length + 2) (ln := 1) (R := Q - 2) (x := nI 3) (op := 3) (dU6 _ _ f5j) (nO _ (by omega)) cn.2.1 (by show tcN c + cs.length + 2 + 1 ≤ tcN c + cs.length + 2 + 1 + 2; omega) (by omega) (by decide) (Nat.le_refl _) (by show C (tcN c + cs.length + 2) &&& 255 = _; rw [cJ]; exact em_lo (by decide)) (by show C (tcN c + cs.length + 2) >>> ((8 : Int32) &&& 31) = _; rw [cJ]; exact em_hi (by decide) (Sm3_n (by decide))) (fun c' a hc ro => OKI_1 (by decide) ⟨fun z => absurd z (by decide), fun _ => by
        rw [show uN (nI (tcN c + cs.length + 2) + nI 3) = tcN c + cs.length + 2 + 1 + 2 from by rw [u_add (by rw [u_n (by omega), u_n (by omega)]; omega), u_n (by omega), u_n (by omega)]]
        exact nx_of a hu f6 (nO _ (by omega)) (shRsh (d + 1) hp (fun i hi => List.mem_append_right _ hi)) (btw _ _) (btw _ _) (by omega), fun z => absurd z (by decide), fun z => absurd z (by decide), fun z => absurd z (by decide)⟩)
      intro c' a hc ro
      exact z c' a hc (fun p x o e => Nat.lt_of_lt_of_le (ro p x o e) (by omega))
  have cn7 : CnC O u p gl Vm nu (mkc c C (tcN c + cs.length + 2 + 1 + 2) D6) w ms := CnC_k cn (fun q y' e => dU6 q y' (dU5 q y' e))
  -- CLEAR
  have t8 := TI_it (C := C) (d := d) (It_cl (u := u) (p := p) (gl := gl) (Vm := Vm) (m := 1) (k := p' - p) (by omega)) (by show 1 ≤ 2; decide) t7 (fun q hq => nO q (by have : tcN c + cs.length + 2 + 1 + 2 ≤ q := hq; omega)) f6 hp cn7 (by show 1000 + 2 ≤ rkE - 2; omega) (by omega) ⟨by omega, by omega⟩ (by show tcN c + cs.length + 2 + 1 + 2 + 2 ≤ _; omega) (fun _ _ => rfl) (fun i hi => by
    have hi' : i < 2 := hi
    rcases (show i = 0 ∨ i = 1 by omega) with z | z
    · rw [z]; exact cT 5 (by decide)
    · rw [z]; exact cT 6 (by decide))
  have t8' : TI O H nu (rkE - 2 - 2) (mkc c C (tcN c + cs.length + 2 + 1 + 2 + 2) (up1 (mkc c C (tcN c + cs.length + 2 + 1 + 2) D6) 2 (u, d + 1, sh pre w ms, rkE - 2 - 2))) := t8
  have dU8 : ∀ q y', D6 q = some y' → up1 (mkc c C (tcN c + cs.length + 2 + 1 + 2) D6) 2 (u, d + 1, sh pre w ms, rkE - 2 - 2) q = some y' := fun q y' e => up1_d t7 (by decide) e
  generalize hD8 : up1 (mkc c C (tcN c + cs.length + 2 + 1 + 2) D6) 2 (u, d + 1, sh pre w ms, rkE - 2 - 2) = D8 at *
  have f8 : D8 (tcN c + cs.length + 2 + 1 + 2 + 2) = some (u, d + 1, sh pre w ms, rkE - 2 - 2) := by rw [← hD8]; exact up1_e (c := mkc c C (tcN c + cs.length + 2 + 1 + 2) D6)
  -- GIVE
  have t9 := TI_it (C := C) (d := d) (It_gi (u := u) (p := p) (gl := gl) (Vm := Vm)) (by show 1 ≤ 1; decide) t8' (fun q hq => nO q (by have : tcN c + cs.length + 2 + 1 + 2 + 2 ≤ q := hq; omega)) f8 hp (CnC_k cn (fun q y' e => dU8 q y' (dU6 q y' (dU5 q y' e)))) (by show 1000 + 1 ≤ rkE - 2 - 2; omega) (by omega) ⟨by omega, by omega⟩ (by show tcN c + cs.length + 2 + 1 + 2 + 2 + 1 ≤ _; omega) (fun _ _ => rfl) (fun i hi => by
    have hi' : i < 1 := hi
    rw [show i = 0 from by omega]
    exact cT 7 (by decide))
  refine ⟨up1 (mkc c C (tcN c + cs.length + 2 + 1 + 2 + 2) D8) 1 (u, d + 1, sh pre w ms, rkE - 2 - 2 - 1), ?_, fun q hq => ?_, ?_⟩
  · rw [show tcN c + (cs.length + 8) = tcN c + cs.length + 2 + 1 + 2 + 2 + 1 from by omega, show R - (cs.length + 8) = rkE - 2 - 2 - 1 from by omega]; exact t9
  · rw [up1_o (by show ¬ q = tcN c + cs.length + 2 + 1 + 2 + 2 + 1; omega)]
    show D8 q = _
    rw [← hD8, up1_o (by show ¬ q = tcN c + cs.length + 2 + 1 + 2 + 2; omega)]
    show D6 q = _
    rw [← hD6, up1_o (by show ¬ q = tcN c + cs.length + 2 + 1 + 2; omega)]
    exact low q hq
  · rw [show tcN c + (cs.length + 8) = tcN c + cs.length + 2 + 1 + 2 + 2 + 1 from by omega, show R - (cs.length + 8) = rkE - 2 - 2 - 1 from by omega]; exact up1_e (c := mkc c C (tcN c + cs.length + 2 + 1 + 2 + 2) D8)
end CUZ
end JnS441
section JnS442
/-! The class: where its lexer stands. -/
section CVA
variable {T R S : Nat → Int32} {n p q a b m : Nat} {σ σ' τ : CS} {L : LV} {l l' : List Int32} {hi lo : Int64}
/-- the kinds of the reference, as the house has them -/
def cKd (k : Nat) : Int32 := if k = 25 then 1 else if k = 26 then 2 else if k = 27 then 3 else if k = 28 then 4 else if k < 25 then sgC.getD k 0 else nI k
abbrev tkV (k : Nat) : Prop := (1 ≤ k ∧ k ≤ 28) ∨ (32 ≤ k ∧ k ≤ 84)
def ckB (k j : Nat) : Bool := !(decide (tkV k) && decide (tkV j)) || (decide (cKd k = cKd j) == decide (k = j))
theorem ck_ck : ∀ k : Nat, k < 85 → ∀ j : Nat, j < 85 → ckB k j = true := by decide +kernel
theorem ck_all (k : Nat) (k85 : k < 85) (hk : tkV k) (j : Nat) (j85 : j < 85) (hj : tkV j) : cKd k = cKd j ↔ k = j := by
  have z := ck_ck k k85 j j85
  unfold ckB at z
  rw [decide_eq_true hk, decide_eq_true hj] at z
  have z' : (decide (cKd k = cKd j) == decide (k = j)) = true := z
  rw [beq_iff_eq, decide_eq_decide] at z'
  exact z'
theorem ck_e {k j : Nat} (hk : tkV k) (hj : tkV j) : cKd k = cKd j ↔ k = j := ck_all k (by omega) hk j (by omega) hj
theorem tk_v (hq : q ≤ n) (h : ¬ tkK T n q = 0) : tkV (tkK T n q) := by
  rcases tk_cases T n q hq with ⟨_, a, b⟩ | ⟨_, ⟨a, b⟩ | ⟨a, b⟩ | ⟨a, b⟩ | ⟨a, b1, b2, b3⟩ | ⟨a, b1, b2, b3⟩ | ⟨a, b⟩⟩
  · omega
  · omega
  · omega
  · omega
  · omega
  · omega
  · exact absurd b h
theorem keyH_c : ∀ m : Nat, (∀ i, i < m → R (a + i) = S (b + i)) → keyH R a m = keyH S b m
  | 0, _ => rfl
  | m + 1, h => by
    show (if m < 8 then keyH R a m <<< ((8 : Int32).toInt64 &&& 63) ||| (R (a + m)).toInt64 else keyH R a m) = (if m < 8 then keyH S b m <<< ((8 : Int32).toInt64 &&& 63) ||| (S (b + m)).toInt64 else keyH S b m)
    rw [keyH_c m (fun i hi => h i (by omega)), h m (by omega)]
theorem keyL_c : ∀ m : Nat, (∀ i, i < m → R (a + i) = S (b + i)) → keyL R a m = keyL S b m
  | 0, _ => rfl
  | m + 1, h => by
    show (if m < 8 then keyL R a m else keyL R a m <<< ((8 : Int32).toInt64 &&& 63) ||| (R (a + m)).toInt64) = (if m < 8 then keyL S b m else keyL S b m <<< ((8 : Int32).toInt64 &&& 63) ||| (S (b + m)).toInt64)
    rw [keyL_c m (fun i hi => h i (by omega)), h m (by omega)]
/-- a name's two numbers -/
def kyH (l : List Int32) : Int64 := keyH (fun i => l.getD i 0) 0 l.length
def kyL (l : List Int32) : Int64 := keyL (fun i => l.getD i 0) 0 l.length
def okN (l : List Int32) : Prop := 1 ≤ l.length ∧ l.length ≤ 16 ∧ ∀ i, i < l.length → okB (l.getD i 0)
theorem gD_ext : ∀ (l l' : List Int32), l.length = l'.length → (∀ i, i < l.length → l.getD i 0 = l'.getD i 0) → l = l'
  | [], [], _, _ => rfl
  | [], b :: l', h, _ => absurd h (by show ¬ 0 = l'.length + 1; omega)
  | a :: l, [], h, _ => absurd h (by show ¬ l.length + 1 = 0; omega)
  | a :: l, b :: l', h, e => by
    have h' : l.length + 1 = l'.length + 1 := h
    have e0 : a = b := e 0 (by show 0 < l.length + 1; omega)
    rw [e0, gD_ext l l' (by omega) (fun i hi => e (i + 1) (by show i + 1 < l.length + 1; omega))]
theorem ky_inj (h1 : okN l) (h2 : okN l') : (kyH l = kyH l' ∧ kyL l = kyL l') ↔ l = l' := by
  have z := key_inj (R := fun i => l.getD i 0) (S := fun i => l'.getD i 0) (a := 0) (b := 0) h1.2.1 h2.2.1 (fun i hi => by show okB (l.getD (0 + i) 0); rw [Nat.zero_add]; exact h1.2.2 i hi) (fun i hi => by show okB (l'.getD (0 + i) 0); rw [Nat.zero_add]; exact h2.2.2 i hi)
  constructor
  · intro e
    obtain ⟨e1, e2⟩ := z.1 e
    refine gD_ext l l' e1 (fun i hi => ?_)
    have y := e2 i hi
    have y' : l.getD (0 + i) 0 = l'.getD (0 + i) 0 := y
    rw [Nat.zero_add] at y'
    exact y'
  · intro e
    rw [e]; exact ⟨rfl, rfl⟩
theorem tk_nm (hq : q ≤ n) (h : tkK T n q = 26) : q < n ∧ isL (rB T n q) ∧ tkE T n q = nameE T n (n + 1) q ∧ nameE T n (n + 1) q - q ≤ 16 := by
  have hc : q < n ∧ (tokM 0 T n q).1 = 1 := by
    rcases tk_cases T n q hq with ⟨_, a, b⟩ | ⟨hl, ⟨a, b⟩ | ⟨a, b⟩ | ⟨a, b⟩ | ⟨a, b1, b2, b3⟩ | ⟨a, b1, b2, b3⟩ | ⟨a, b⟩⟩
    · omega
    · exact ⟨hl, a⟩
    · omega
    · omega
    · omega
    · omega
    · omega
  obtain ⟨hl, a⟩ := hc
  have n0 : ¬ q = n := by omega
  have eE : tkE T n q = (tokM 0 T n q).2.2 := rfl
  unfold tokM at a eE
  rw [if_neg n0] at a eE
  by_cases c : isL (rB T n q)
  · rw [if_pos c] at a eE
    refine ⟨hl, c, eE, ?_⟩
    by_cases c16 : nameE T n (n + 1) q - q ≤ 16
    · exact c16
    · have a' : (if nameE T n (n + 1) q - q ≤ 16 then (if wordI (seg T q (nameE T n (n + 1) q)) = -1 then (1 : Int32) else 5) else 6) = 1 := a
      rw [if_neg c16] at a'
      exact absurd a' (by decide)
  · exfalso
    rw [if_neg c] at a
    by_cases c2 : isD (rB T n q)
    · rw [if_pos c2] at a
      have a' : (if digE T n (n + 1) q - q ≤ 60 then (2 : Int32) else 6) = 1 := a
      split at a' <;> exact absurd a' (by decide)
    · rw [if_neg c2] at a
      by_cases c3 : rB T n q = 34
      · rw [if_pos c3] at a
        have a' : (if (strE T n (n + 1) (q + 1) < n ∧ T (strE T n (n + 1) (q + 1)) = 34) ∧ strE T n (n + 1) (q + 1) - q - 1 ≤ 100 then (3 : Int32) else 6) = 1 := a
        split at a' <;> exact absurd a' (by decide)
      · rw [if_neg c3] at a
        have a' : (if signF (rB T n q) (rB T n (q + 1)) = 0 then (6 : Int32) else 4) = 1 := a
        split at a' <;> exact absurd a' (by decide)
/-- a name's bytes on both sides -/
theorem nm_same (h : sameT T R n) (hq : q ≤ n) (hk : tkK T n q = 26) : okN (tkS T n q) ∧ (tokC lxW hi lo R n q).2.2 = (kyH (tkS T n q), kyL (tkS T n q)) := by
  obtain ⟨hl, c, eE, h16⟩ := tk_nm hq hk
  have hge := nameE_ge T n (n + 1) q
  have hle := nameE_le T n (n + 1) q hq
  have hall := nameE_all T n (n + 1) q
  have hgt : q < nameE T n (n + 1) q := by
    have := (tkE_b T n q hq).2.2 (by omega)
    omega
  have hok : ∀ i, q ≤ i → i < nameE T n (n + 1) q → okB (R i) ∧ T i = R i := fun i a b => by
    have hn := hall i a b
    have ht := t_int h (i := i) (by omega)
    have hb := fits_byte' (h.2.1 i (by omega))
    have : 48 ≤ (T i).toInt ∧ (T i).toInt ≤ 122 := by
      rcases hn with g | g | g
      · rw [isL_int] at g; omega
      · rw [isD_int] at g; omega
      · rw [g]; decide
    by_cases g : 0 ≤ (R i).toInt
    · rw [if_pos g] at ht; exact ⟨by omega, by rw [i_eq]; exact ht⟩
    · rw [if_neg g] at ht; omega
  have eS : tkS T n q = seg T q (nameE T n (n + 1) q) := by unfold tkS; rw [eE]
  have el : (tkS T n q).length = nameE T n (n + 1) q - q := by rw [eS, seg_len]
  have eg : ∀ i, i < nameE T n (n + 1) q - q → (tkS T n q).getD i 0 = R (q + i) := fun i hi => by
    rw [eS, seg_at hi]
    exact (hok (q + i) (by omega) (by omega)).2
  refine ⟨⟨by omega, by omega, fun i hi => by rw [eg i (by omega)]; exact (hok (q + i) (by omega) (by omega)).1⟩, ?_⟩
  have kl : cls (R q) = 2 := by
    have z := (same_kind h hl).1
    rw [rB_in hl] at c
    exact z.1 c
  unfold tokC
  rw [if_neg (by omega), if_pos kl, name_same h (n + 1) q]
  show (keyH R q (nameE T n (n + 1) q - q), keyL R q (nameE T n (n + 1) q - q)) = _
  unfold kyH kyL
  rw [el]
  refine Prod.ext (keyH_c _ (fun i hi => ?_)) (keyL_c _ (fun i hi => ?_))
  · show R (q + i) = (tkS T n q).getD (0 + i) 0
    rw [Nat.zero_add]; exact (eg i hi).symm
  · show R (q + i) = (tkS T n q).getD (0 + i) 0
    rw [Nat.zero_add]; exact (eg i hi).symm
/-- the lexer is at the token that begins at q -/
def LxQ (T : Nat → Int32) (n q : Nat) (σ : CS) : Prop := cN σ n ∧ sameT T (σ.2.2.1 38) n ∧ σ.2.2.2.1 39 = lxW ∧ q ≤ n ∧ ¬ tkK T n q = 0 ∧ σ.1 3702 = cKd (tkK T n q) ∧ σ.1 3703 = nI q ∧ σ.1 3704 = nI (tkE T n q) ∧ (tkK T n q = 26 → (σ.2.1 3705 = kyH (tkS T n q) ∧ σ.2.1 3706 = kyL (tkS T n q)) ∧ okN (tkS T n q))
/-- the next token is looked at; what is none is thrown -/
def AdO (T : Nat → Int32) (n q : Nat) (σ : CS) (r : RS) : Prop := (tkK T n q = 0 → r.1 = (1, 0) ∧ r.2.2 = (1, 6) ∧ r.2.1.1 3703 = nI q) ∧ (¬ tkK T n q = 0 → r.1 = (0, 0) ∧ r.2.2 = (0, 0) ∧ LxQ T n q r.2.1) ∧ ∃ kd st en hi lo, r.2.1 = sA σ kd st en hi lo
theorem c_advP (hn : cN σ n) (hs : sameT T (σ.2.2.1 38) n) (hw : σ.2.2.2.1 39 = lxW) (h4 : σ.1 3704 = nI p) (hp : p ≤ n) : Tm (fun k => f_X2_advance k 0 L σ) (AdO T n (sk T n p) σ) := by
  refine Tm_mono (s_advance hn h4 hp L) (fun r z => ?_)
  have z' := z (sk T n p) _ (sk_same hs hp).symm rfl
  rw [hw] at z'
  have hq : sk T n p ≤ n := skE_le T n (n + 1) p hp
  have hnb : sk T n p < n → ¬ cls (σ.2.2.1 38 (sk T n p)) = 31 := fun lt => by
    have y := skE_not T n (n + 1) p (by omega) hp lt
    exact fun w => y ((same_blank hs lt).2 w)
  have ts := tok_same hs hq hnb 0 (σ.2.1 3705) (σ.2.1 3706)
  generalize sk T n p = q at *
  have k0 : tkK T n q = 0 ↔ (tokM 0 T n q).1 = 6 := by
    rcases tk_cases T n q hq with ⟨_, a, b⟩ | ⟨hl, ⟨a, b⟩ | ⟨a, b⟩ | ⟨a, b⟩ | ⟨a, b1, b2, b3⟩ | ⟨a, b1, b2, b3⟩ | ⟨a, b⟩⟩
    · rw [a, b]; decide
    · rw [a, b]; decide
    · rw [a, b]; decide
    · rw [a, b]; decide
    · rw [a]; exact ⟨fun y => by omega, fun y => absurd y (by decide)⟩
    · rw [a]; exact ⟨fun y => by omega, fun y => absurd y (by decide)⟩
    · rw [a, b]; decide
  refine ⟨fun e => ?_, fun e => ?_, ?_⟩
  · have bd := ts.1.2 (k0.1 e)
    rw [z']
    unfold cTok
    rw [if_pos bd]
    exact ⟨rfl, rfl, sA_r3⟩
  · have nb : ¬ badK (tokC lxW (σ.2.1 3705) (σ.2.1 3706) (σ.2.2.1 38) n q).1 := fun y => e (k0.2 (ts.1.1 y))
    obtain ⟨t1, t2⟩ := ts.2 nb
    rw [z']
    unfold cTok
    rw [if_neg nb]
    refine ⟨rfl, rfl, cN_sA hn, hs, hw, hq, e, ?_, sA_r3, ?_, fun e26 => ?_⟩
    · show (sA σ _ _ _ _ _).1 3702 = _
      rw [sA_r2]
      rcases tk_cases T n q hq with ⟨_, a, b⟩ | ⟨hl, ⟨a, b⟩ | ⟨a, b⟩ | ⟨a, b⟩ | ⟨a, b1, b2, b3⟩ | ⟨a, b1, b2, b3⟩ | ⟨a, b⟩⟩
      · rw [b]
        rcases t2 with ⟨y, _⟩ | ⟨_, y⟩ | ⟨_, y⟩ | ⟨_, y⟩ | ⟨y, _⟩ | ⟨y, _⟩
        · exact y
        all_goals (rw [a] at y; exact absurd y (by decide))
      · rw [b]
        rcases t2 with ⟨_, y⟩ | ⟨y, _⟩ | ⟨_, y⟩ | ⟨_, y⟩ | ⟨y, _⟩ | ⟨y, _⟩
        · rw [a] at y; exact absurd y (by decide)
        · exact y
        all_goals (rw [a] at y; exact absurd y (by decide))
      · rw [b]
        rcases t2 with ⟨_, y⟩ | ⟨_, y⟩ | ⟨y, _⟩ | ⟨_, y⟩ | ⟨y, _⟩ | ⟨y, _⟩
        · rw [a] at y; exact absurd y (by decide)
        · rw [a] at y; exact absurd y (by decide)
        · exact y
        all_goals (rw [a] at y; exact absurd y (by decide))
      · rw [b]
        rcases t2 with ⟨_, y⟩ | ⟨_, y⟩ | ⟨_, y⟩ | ⟨y, _⟩ | ⟨y, _⟩ | ⟨y, _⟩
        · rw [a] at y; exact absurd y (by decide)
        · rw [a] at y; exact absurd y (by decide)
        · rw [a] at y; exact absurd y (by decide)
        · exact y
        all_goals (rw [a] at y; exact absurd y (by decide))
      · rcases t2 with ⟨_, y⟩ | ⟨_, y⟩ | ⟨_, y⟩ | ⟨_, y⟩ | ⟨_, v, v1, v2, v3, v4⟩ | ⟨y, _⟩
        · rw [a] at y; exact absurd y (by decide)
        · rw [a] at y; exact absurd y (by decide)
        · rw [a] at y; exact absurd y (by decide)
        · rw [a] at y; exact absurd y (by decide)
        · rw [b3, n_eq (by omega) (by omega)] at v3
          rw [v4, ← v3]
          unfold cKd
          rw [if_neg (by omega), if_neg (by omega), if_neg (by omega), if_neg (by omega), if_pos (by omega)]
        · rw [a] at y; exact absurd y (by decide)
      · rcases t2 with ⟨_, y⟩ | ⟨_, y⟩ | ⟨_, y⟩ | ⟨_, y⟩ | ⟨y, _⟩ | ⟨_, v, v1, v3, v4⟩
        · rw [a] at y; exact absurd y (by decide)
        · rw [a] at y; exact absurd y (by decide)
        · rw [a] at y; exact absurd y (by decide)
        · rw [a] at y; exact absurd y (by decide)
        · rw [a] at y; exact absurd y (by decide)
        · rw [b3, n_eq (by omega) (by omega)] at v3
          rw [v4]
          unfold cKd
          rw [if_neg (by omega), if_neg (by omega), if_neg (by omega), if_neg (by omega), if_neg (by omega)]
          show nI 32 + nI v = _
          rw [n_add (by omega), ← v3]
          exact congrArg nI (by omega)
      · exact absurd b e
    · show (sA σ _ _ _ _ _).1 3704 = _
      rw [sA_r4, t1]; rfl
    · obtain ⟨y1, y2⟩ := nm_same (hi := σ.2.1 3705) (lo := σ.2.1 3706) hs hq e26
      refine ⟨⟨?_, ?_⟩, y1⟩
      · show (sA σ _ _ _ _ _).2.1 3705 = _
        rw [sA_r5, y2]
      · show (sA σ _ _ _ _ _).2.1 3706 = _
        rw [sA_r6, y2]
  · rw [z']
    unfold cTok
    split
    · exact ⟨_, _, _, _, _, rfl⟩
    · exact ⟨_, _, _, _, _, rfl⟩
theorem c_adv (h : LxQ T n q σ) : Tm (fun k => f_X2_advance k 0 L σ) (AdO T n (tkN T n q) σ) := by
  obtain ⟨h1, h2, h3, h4, h5, h6, h7, h8, h9⟩ := h
  exact c_advP h1 h2 h3 h8 (tkE_b T n q h4).2.1
end CVA
end JnS442
section JnS443
/-! The class: its parser lays code. -/
section CVB
variable {σ σ' σ2 τ : CS} {L : LV} {b : Bool} {sz m n : Nat} {x y : Int32} {l l' : List Int32}
/-- the code of program b -/
abbrev cdr (b : Bool) (σ : CS) : Nat → Int32 := σ.2.2.1 (pR0 (sKd σ b))
abbrev cdn (b : Bool) (σ : CS) : Nat := sN σ (pR0 (sKd σ b))
def CdL (b : Bool) (sz : Nat) (σ : CS) : Prop := σ.1 (fP b 1) = nI sz ∧ sz ≤ cdn b σ ∧ (cdn b σ = 36864 ∨ (sN σ 43 = 1024 ∧ sN σ 51 = 1024))
def CdF (b : Bool) (σ σ' : CS) : Prop := (∀ j, ¬ j = fP b 1 → σ'.1 j = σ.1 j) ∧ σ'.2.1 = σ.2.1 ∧ (∀ k, ¬ (k = 43 ∨ k = 51) → σ'.2.2.1 k = σ.2.2.1 k ∧ sN σ' k = sN σ k) ∧ σ'.2.2.2.1 = σ.2.2.2.1 ∧ (sCur σ' = sCur σ ∧ sOt σ' = sOt σ ∧ sPr σ' = sPr σ ∧ sPp σ' = sPp σ) ∧ (∀ c, ¬ c = b → sKd σ' c = sKd σ c) ∧ σ'.2.2.2.2.2.2 = σ.2.2.2.2.2.2
theorem CdF_r (b : Bool) (σ : CS) : CdF b σ σ := ⟨fun _ _ => rfl, rfl, fun _ _ => ⟨rfl, rfl⟩, rfl, ⟨rfl, rfl, rfl, rfl⟩, fun _ _ => rfl, rfl⟩
theorem CdF_t (a : CdF b σ σ') (d : CdF b σ' σ2) : CdF b σ σ2 := ⟨fun j hj => (d.1 j hj).trans (a.1 j hj), d.2.1.trans a.2.1, fun k hk => ⟨(d.2.2.1 k hk).1.trans (a.2.2.1 k hk).1, (d.2.2.1 k hk).2.trans (a.2.2.1 k hk).2⟩, d.2.2.2.1.trans a.2.2.2.1, ⟨d.2.2.2.2.1.1.trans a.2.2.2.2.1.1, d.2.2.2.2.1.2.1.trans a.2.2.2.2.1.2.1, d.2.2.2.2.1.2.2.1.trans a.2.2.2.2.1.2.2.1, d.2.2.2.2.1.2.2.2.trans a.2.2.2.2.1.2.2.2⟩, fun c hc => (d.2.2.2.2.2.1 c hc).trans (a.2.2.2.2.2.1 c hc), d.2.2.2.2.2.2.trans a.2.2.2.2.2.2⟩
/-- ints are laid behind the code -/
def CdO (b : Bool) (sz : Nat) (l : List Int32) (σ σ' : CS) : Prop := CdF b σ σ' ∧ CdL b (sz + l.length) σ' ∧ (∀ i, i < sz → cdr b σ' i = cdr b σ i ∧ cdr (!b) σ' i = cdr (!b) σ i) ∧ ∀ i, i < l.length → cdr b σ' (sz + i) = l.getD i 0
theorem CdO_t (a : CdO b sz l σ σ') (d : CdO b (sz + l.length) l' σ' σ2) : CdO b sz (l ++ l') σ σ2 := by
  obtain ⟨a1, a2, a3, a4⟩ := a
  obtain ⟨d1, d2, d3, d4⟩ := d
  refine ⟨CdF_t a1 d1, ?_, fun i hi => ⟨(d3 i (by omega)).1.trans (a3 i hi).1, (d3 i (by omega)).2.trans (a3 i hi).2⟩, fun i hi => ?_⟩
  · rw [List.length_append, ← Nat.add_assoc]; exact d2
  · rw [List.length_append] at hi
    rcases Nat.lt_or_ge i l.length with z | z
    · rw [(d3 (sz + i) (by omega)).1, a4 i z, gd_l z]
    · have e := d4 (i - l.length) (by omega)
      rw [show sz + l.length + (i - l.length) = sz + i from by omega] at e
      rw [e]
      have g := gd_r (a := l) (b := l') (i - l.length)
      rw [show l.length + (i - l.length) = i from by omega] at g
      exact g.symm
theorem pR0_c (b : Bool) : pR0 b = 43 ∨ pR0 b = 51 := by cases b; exact Or.inl rfl; exact Or.inr rfl
theorem fP_ne (b : Bool) {i j : Nat} (h : ¬ i = j) : ¬ fP b i = fP b j := by
  unfold fP
  cases b
  · show ¬ 6800 + i = 6800 + j; omega
  · show ¬ 5000 + i = 5000 + j; omega
/-- a wider row for the code: once -/
theorem uC_ok (h : CdL b sz σ) (h1 : sN σ 43 = 1024 ∧ sN σ 51 = 1024) : CdO b sz [] σ (uC σ b 36864) ∧ cdn b (uC σ b 36864) = 36864 ∧ 1 + PhC (uC σ b 36864) ≤ PhC σ ∧ 36864 + PhS (uC σ b 36864) ≤ PhS σ := by
  obtain ⟨c1, c2, c3⟩ := h
  have kb : sKd (uC σ b 36864) b = tS σ b := if_pos rfl
  have ko : ∀ c, ¬ c = b → sKd (uC σ b 36864) c = sKd σ c := fun c hc => if_neg hc
  have n0 : cdn b σ = 1024 := by
    rcases pR0_c (sKd σ b) with z | z
    · show sN σ (pR0 (sKd σ b)) = _; rw [z]; exact h1.1
    · show sN σ (pR0 (sKd σ b)) = _; rw [z]; exact h1.2
  have nn : cdn b (uC σ b 36864) = 36864 := by
    show updN (sN σ) (pR0 (tS σ b)) 36864 (pR0 (sKd (uC σ b 36864) b)) = _
    rw [kb]
    exact if_pos rfl
  have rr : cdr b (uC σ b 36864) = fun i => if i < sN σ (pR0 (sKd σ b)) then σ.2.2.1 (pR0 (sKd σ b)) i else 0 := by
    show updG σ.2.2.1 (pR0 (tS σ b)) _ (pR0 (sKd (uC σ b 36864) b)) = _
    rw [kb, updG_same]
  have nb : ¬ (!b) = b := by cases b <;> decide
  have ro : ∀ i, i < sz → cdr (!b) (uC σ b 36864) i = cdr (!b) σ i := fun i hi => by
    show updG σ.2.2.1 (pR0 (tS σ b)) _ (pR0 (sKd (uC σ b 36864) (!b))) i = σ.2.2.1 (pR0 (sKd σ (!b))) i
    rw [ko _ nb]
    have ne : ¬ pR0 (sKd σ (!b)) = pR0 (tS σ b) := by
      unfold tS
      by_cases z : sKd σ (!b) = sKd σ b
      · rw [if_pos z, z]
        cases sKd σ b <;> decide
      · rw [if_neg z]
        revert z
        cases sKd σ (!b) <;> cases sKd σ b <;> decide
    rw [updG_other ne]
  refine ⟨⟨⟨fun _ _ => rfl, rfl, fun k hk => ?_, rfl, ⟨rfl, rfl, rfl, rfl⟩, ko, rfl⟩, ⟨c1, ?_, Or.inl nn⟩, fun i hi => ⟨?_, ro i hi⟩, fun i hi => absurd hi (Nat.not_lt_zero _)⟩, nn, ?_⟩
  · have ne : ¬ k = pR0 (tS σ b) := fun e => by rcases pR0_c (tS σ b) with z | z <;> omega
    exact ⟨updG_other ne, if_neg ne⟩
  · rw [nn]; show sz + 0 ≤ _; omega
  · rw [rr]
    show (if i < sN σ (pR0 (sKd σ b)) then _ else _) = _
    rw [if_pos (by have : sz ≤ sN σ (pR0 (sKd σ b)) := c2; omega)]
  · have o : ∀ k, ¬ (k = 43 ∨ k = 51) → sN (uC σ b 36864) k = sN σ k := fun k hk => if_neg (fun e => by rcases pR0_c (tS σ b) with z | z <;> omega)
    have o4 : (sN (uC σ b 36864) 43 = 36864 ∧ sN (uC σ b 36864) 51 = 1024) ∨ (sN (uC σ b 36864) 43 = 1024 ∧ sN (uC σ b 36864) 51 = 36864) := by
      rcases pR0_c (tS σ b) with z | z
      · left
        refine ⟨?_, ?_⟩
        · show (if 43 = pR0 (tS σ b) then 36864 else sN σ 43) = _; rw [if_pos z.symm]
        · show (if 51 = pR0 (tS σ b) then 36864 else sN σ 51) = _; rw [if_neg (by omega)]; exact h1.2
      · right
        refine ⟨?_, ?_⟩
        · show (if 43 = pR0 (tS σ b) then 36864 else sN σ 43) = _; rw [if_neg (by omega)]; exact h1.1
        · show (if 51 = pR0 (tS σ b) then 36864 else sN σ 51) = _; rw [if_pos z.symm]
    unfold PhC PhS cdC cdS pC pS
    rw [o 3 (by decide), o 1 (by decide), o 2 (by decide), o 20 (by decide), o 21 (by decide), o 22 (by decide), o 26 (by decide), o 41 (by decide), o 42 (by decide), o 66 (by decide), o 38 (by decide), h1.1, h1.2]
    have a1 : (if (36864 : Nat) < 36864 then (1 : Nat) else 0) = 0 := if_neg (by decide)
    have a2 : (if (1024 : Nat) < 36864 then (1 : Nat) else 0) = 1 := if_pos (by decide)
    have b1 : (if (36864 : Nat) < 36864 then (36864 : Nat) else 0) = 0 := if_neg (by decide)
    have b2 : (if (1024 : Nat) < 36864 then (36864 : Nat) else 0) = 36864 := if_pos (by decide)
    rcases o4 with ⟨z1, z2⟩ | ⟨z1, z2⟩
    · rw [z1, z2, a1, a2, b1, b2]
      constructor <;> omega
    · rw [z1, z2, a1, a2, b1, b2]
      constructor <;> omega
theorem CdO_0 (h : CdL b sz σ) : CdO b sz [] σ σ := ⟨CdF_r b σ, h, fun _ _ => ⟨rfl, rfl⟩, fun i hi => absurd hi (Nat.not_lt_zero _)⟩
theorem c_widenC (h : CdL b sz σ) (hb : L.2.2.1 0 = b) (h1 : L.1 1 = nI m) (hm : sz + m ≤ 36864) : Tm (fun k => f_X7_widen__P k 0 L σ) (fun r => r.1 = (0, 0) ∧ CoP σ r ∧ CdO b sz [] σ r.2.1 ∧ sz + m ≤ cdn b r.2.1) := by
  obtain ⟨c1, c2, c3⟩ := h
  have ea : ∀ τ : CS, τ.1 (fP b 1) = nI sz → τ.1 (fP b 1) + L.1 1 = nI (sz + m) := fun τ e => by rw [e, h1, n_add (by omega)]
  have b2 : ∀ (τ : CS) (n1 n2 : Nat), (n1 + PhC τ ≤ PhC σ ∧ n2 + PhS τ ≤ PhS σ) → CdO b sz [] σ τ → sz + m ≤ cdn b τ → cdn b τ ≤ 36864 → Tm (fun k => f_X7_widen__P k 1 L τ) (fun q => q.1 = (0, 0) ∧ CoP σ (q.1, q.2.1, (n1 + q.2.2.1, n2 + q.2.2.2)) ∧ CdO b sz [] σ q.2.1 ∧ sz + m ≤ cdn b q.2.1) := by
    intro τ n1 n2 co cd hh hh2
    have e1 : τ.1 (fP b 1) = nI sz := cd.2.1.1
    refine Tm_suc (fun k => by rw [f_X7_widen__P]) ?_
    rw [hb, ea τ e1]
    refine Tm_yes ?_ ?_
    · show nI (sz + m) ≤ nI (cdn b τ)
      rw [n_le (by omega) (by omega)]; exact hh
    · refine Tm_suc (fun k => by rw [f_X7_widen__P]) ?_
      exact Tm_some ⟨rfl, ⟨by show n1 + 0 + PhC τ ≤ _; omega, by show n2 + 0 + PhS τ ≤ _; omega⟩, cd, hh⟩
  have n36 : cdn b σ ≤ 36864 := by
    rcases c3 with z | z
    · omega
    · rcases pR0_c (sKd σ b) with y | y
      · show sN σ (pR0 (sKd σ b)) ≤ _; rw [y, z.1]; decide
      · show sN σ (pR0 (sKd σ b)) ≤ _; rw [y, z.2]; decide
  refine Tm_suc (fun k => by rw [f_X7_widen__P]) ?_
  rw [hb, ea σ c1]
  refine Tm_ite (fun c => ?_) (fun c => ?_)
  · have c' : nI (sz + m) ≤ nI (cdn b σ) := c
    rw [n_le (by omega) (by omega)] at c'
    refine Tm_mono (b2 σ 0 0 ⟨by omega, by omega⟩ (CdO_0 ⟨c1, c2, c3⟩) c' n36) (fun q z => ?_)
    rw [Nat.zero_add, Nat.zero_add] at z
    exact z
  · have c' : ¬ nI (sz + m) ≤ nI (cdn b σ) := c
    rw [n_le (by omega) (by omega)] at c'
    rcases c3 with z | z
    · omega
    · have n0 : cdn b σ = 1024 := by
        rcases pR0_c (sKd σ b) with y | y
        · show sN σ (pR0 (sKd σ b)) = _; rw [y]; exact z.1
        · show sN σ (pR0 (sKd σ b)) = _; rw [y]; exact z.2
      have n0' : sN σ (pR0 (sKd σ b)) = 1024 := n0
      obtain ⟨u1, u2, u3, u4⟩ := uC_ok (sz := sz) ⟨c1, c2, Or.inr z⟩ z
      refine Tm_no ?_ ?_
      · rw [n0']; decide
      · refine Tm_chk ⟨by decide, by decide, by rw [n0']; decide⟩ (Tm_chk (by rw [n0']; decide) ?_)
        refine Tm_adR ?_
        refine Tm_mono (b2 (uC σ b 36864) 1 36864 ⟨u3, u4⟩ u1 (by rw [u2]; exact hm) (by rw [u2]; exact Nat.le_refl _)) (fun q y => y)
/-- one int -/
theorem CdO_1 (h : CdO b sz [] σ τ) (hn : sz + 1 ≤ cdn b τ) (x : Int32) : CdO b sz [x] σ (uI (uA τ (pR0 (sKd τ b)) sz x) (fP b 1) (nI (sz + 1))) := by
  obtain ⟨h1, ⟨h2, h3, h4⟩, h5, h6⟩ := h
  have nb : ¬ (!b) = b := by cases b <;> decide
  refine ⟨CdF_t h1 ⟨fun j hj => uI_o hj, rfl, fun k hk => ⟨updG_other (fun e => by rcases pR0_c (sKd τ b) with z | z <;> omega), rfl⟩, rfl, ⟨rfl, rfl, rfl, rfl⟩, fun _ _ => rfl, rfl⟩, ⟨uI_s, hn, h4⟩, fun i hi => ⟨?_, ?_⟩, fun i hi => ?_⟩
  · rw [← (h5 i hi).1]
    show updG τ.2.2.1 (pR0 (sKd τ b)) (upd (τ.2.2.1 (pR0 (sKd τ b))) sz x) (pR0 (sKd τ b)) i = _
    rw [updG_same, upd_other (by omega)]
  · rw [← (h5 i hi).2]
    show updG τ.2.2.1 (pR0 (sKd τ b)) (upd (τ.2.2.1 (pR0 (sKd τ b))) sz x) (pR0 (sKd τ (!b))) i = _
    by_cases e : pR0 (sKd τ (!b)) = pR0 (sKd τ b)
    · rw [e, updG_same, upd_other (by omega)]
      show _ = τ.2.2.1 (pR0 (sKd τ (!b))) i
      rw [e]
    · rw [updG_other e]
  · have hi' : i < 1 := hi
    rw [show i = 0 from by omega]
    show updG τ.2.2.1 (pR0 (sKd τ b)) (upd (τ.2.2.1 (pR0 (sKd τ b))) sz x) (pR0 (sKd τ b)) (sz + 0) = x
    rw [updG_same, Nat.add_zero, upd_same]
theorem sub1_n {k : Nat} (h : k < 1000000) : nI (k + 1) - 1 = nI k := by
  rw [show (1 : Int32) = nI 1 from rfl, n_sub (by omega) (by omega)]
  exact congrArg nI (by omega)
theorem c_emit (h : CdL b sz σ) (hb : L.2.2.1 0 = b) (hm : sz + 1 ≤ 36864) : Tm (fun k => f_X7_emit__P k 0 L σ) (fun r => r.1 = (0, nI sz) ∧ CoP σ r ∧ CdO b sz [L.1 1 ||| (L.1 2 <<< ((8 : Int32) &&& 31))] σ r.2.1) := by
  refine Tm_suc (fun k => by rw [f_X7_emit__P]) ?_
  refine Tm_oxc (c_widenC (m := 1) h hb rfl hm) (fun r z => by rw [z.1]) (fun r z => ?_)
  obtain ⟨z1, z2, z3, z4⟩ := z
  have e1 : r.2.1.1 (fP b 1) = nI sz := z3.2.1.1
  have s2 : sz < cdn b r.2.1 := by omega
  have s3 : cdn b r.2.1 ≤ 2147483648 := by
    rcases z3.2.1.2.2 with y | y
    · omega
    · rcases pR0_c (sKd r.2.1 b) with w | w
      · show sN r.2.1 (pR0 (sKd r.2.1 b)) ≤ _; rw [w, y.1]; decide
      · show sN r.2.1 (pR0 (sKd r.2.1 b)) ≤ _; rw [w, y.2]; decide
  rw [hb, e1]
  refine Tm_chk (u_in (by rw [u_n (by omega)]; exact s2) s3) ?_
  rw [n_cl (by omega)]
  have e2 : (uA r.2.1 (pR0 (sKd r.2.1 b)) sz (L.1 1 ||| (L.1 2 <<< ((8 : Int32) &&& 31)))).1 (fP b 1) + 1 = nI (sz + 1) := by
    show r.2.1.1 (fP b 1) + 1 = _
    rw [e1, n_add1]
  rw [e2]
  refine Tm_some ⟨?_, ?_, CdO_1 z3 z4 _⟩
  · show (0, (uI (uA r.2.1 (pR0 (sKd r.2.1 b)) sz (L.1 1 ||| (L.1 2 <<< ((8 : Int32) &&& 31)))) (fP b 1) (nI (sz + 1))).1 (fP b 1) - 1) = _
    rw [uI_s, sub1_n (by omega)]
  · have ph := Ph_s (σ := r.2.1) (σ' := uI (uA r.2.1 (pR0 (sKd r.2.1 b)) sz (L.1 1 ||| (L.1 2 <<< ((8 : Int32) &&& 31)))) (fP b 1) (nI (sz + 1))) rfl
    obtain ⟨p1, p2⟩ := z2
    refine ⟨?_, ?_⟩
    · show r.2.2.1 + 0 + PhC (uI (uA r.2.1 (pR0 (sKd r.2.1 b)) sz (L.1 1 ||| (L.1 2 <<< ((8 : Int32) &&& 31)))) (fP b 1) (nI (sz + 1))) ≤ _
      omega
    · show r.2.2.2 + 0 + PhS (uI (uA r.2.1 (pR0 (sKd r.2.1 b)) sz (L.1 1 ||| (L.1 2 <<< ((8 : Int32) &&& 31)))) (fP b 1) (nI (sz + 1))) ≤ _
      omega
theorem c_word (h : CdL b sz σ) (hb : L.2.2.1 0 = b) (hm : sz + 1 ≤ 36864) : Tm (fun k => f_X7_word__P k 0 L σ) (fun r => r.1 = (0, nI sz) ∧ CoP σ r ∧ CdO b sz [L.1 1] σ r.2.1) := by
  refine Tm_suc (fun k => by rw [f_X7_word__P]) ?_
  refine Tm_oxc (c_widenC (m := 1) h hb rfl hm) (fun r z => by rw [z.1]) (fun r z => ?_)
  obtain ⟨z1, z2, z3, z4⟩ := z
  have e1 : r.2.1.1 (fP b 1) = nI sz := z3.2.1.1
  have s2 : sz < cdn b r.2.1 := by omega
  have s3 : cdn b r.2.1 ≤ 2147483648 := by
    rcases z3.2.1.2.2 with y | y
    · omega
    · rcases pR0_c (sKd r.2.1 b) with w | w
      · show sN r.2.1 (pR0 (sKd r.2.1 b)) ≤ _; rw [w, y.1]; decide
      · show sN r.2.1 (pR0 (sKd r.2.1 b)) ≤ _; rw [w, y.2]; decide
  rw [hb, e1]
  refine Tm_chk (u_in (by rw [u_n (by omega)]; exact s2) s3) ?_
  rw [n_cl (by omega)]
  have e2 : (uA r.2.1 (pR0 (sKd r.2.1 b)) sz (L.1 1)).1 (fP b 1) + 1 = nI (sz + 1) := by
    show r.2.1.1 (fP b 1) + 1 = _
    rw [e1, n_add1]
  rw [e2]
  refine Tm_some ⟨?_, ?_, CdO_1 z3 z4 _⟩
  · show (0, (uI (uA r.2.1 (pR0 (sKd r.2.1 b)) sz (L.1 1)) (fP b 1) (nI (sz + 1))).1 (fP b 1) - 1) = _
    rw [uI_s, sub1_n (by omega)]
  · have ph := Ph_s (σ := r.2.1) (σ' := uI (uA r.2.1 (pR0 (sKd r.2.1 b)) sz (L.1 1)) (fP b 1) (nI (sz + 1))) rfl
    obtain ⟨p1, p2⟩ := z2
    refine ⟨?_, ?_⟩
    · show r.2.2.1 + 0 + PhC (uI (uA r.2.1 (pR0 (sKd r.2.1 b)) sz (L.1 1)) (fP b 1) (nI (sz + 1))) ≤ _
      omega
    · show r.2.2.2 + 0 + PhS (uI (uA r.2.1 (pR0 (sKd r.2.1 b)) sz (L.1 1)) (fP b 1) (nI (sz + 1))) ≤ _
      omega
end CVB
end JnS443
section JnS444
/-! The class: its parser's marks. -/
section CVC
variable {σ σ' σ2 τ : CS} {L : LV} {b : Bool} {mk m n : Nat} {x y z : Int32} {l l' : List Int32}
def MkL (mk : Nat) (σ : CS) : Prop := σ.1 4011 = nI mk ∧ mk ≤ sN σ 41 ∧ sN σ 41 ≤ 21504
def MkF (σ σ' : CS) : Prop := (∀ j, ¬ j = 4011 → σ'.1 j = σ.1 j) ∧ σ'.2.1 = σ.2.1 ∧ (∀ k, ¬ k = 41 → σ'.2.2.1 k = σ.2.2.1 k ∧ sN σ' k = sN σ k) ∧ σ'.2.2.2.1 = σ.2.2.2.1 ∧ σ'.2.2.2.2.2 = σ.2.2.2.2.2
theorem MkF_r (σ : CS) : MkF σ σ := ⟨fun _ _ => rfl, rfl, fun _ _ => ⟨rfl, rfl⟩, rfl, rfl⟩
theorem MkF_t (a : MkF σ σ') (d : MkF σ' σ2) : MkF σ σ2 := ⟨fun j hj => (d.1 j hj).trans (a.1 j hj), d.2.1.trans a.2.1, fun k hk => ⟨(d.2.2.1 k hk).1.trans (a.2.2.1 k hk).1, (d.2.2.1 k hk).2.trans (a.2.2.1 k hk).2⟩, d.2.2.2.1.trans a.2.2.2.1, d.2.2.2.2.trans a.2.2.2.2⟩
/-- marks are laid upon the others -/
def MrO (mk : Nat) (l : List Int32) (σ σ' : CS) : Prop := MkF σ σ' ∧ MkL (mk + l.length) σ' ∧ (∀ i, i < mk → σ'.2.2.1 41 i = σ.2.2.1 41 i) ∧ ∀ i, i < l.length → σ'.2.2.1 41 (mk + i) = l.getD i 0
theorem MrO_0 (h : MkL mk σ) : MrO mk [] σ σ := ⟨MkF_r σ, h, fun _ _ => rfl, fun i hi => absurd hi (Nat.not_lt_zero _)⟩
theorem MrO_t (a : MrO mk l σ σ') (d : MrO (mk + l.length) l' σ' σ2) : MrO mk (l ++ l') σ σ2 := by
  obtain ⟨a1, a2, a3, a4⟩ := a
  obtain ⟨d1, d2, d3, d4⟩ := d
  refine ⟨MkF_t a1 d1, ?_, fun i hi => (d3 i (by omega)).trans (a3 i hi), fun i hi => ?_⟩
  · rw [List.length_append, ← Nat.add_assoc]; exact d2
  · rw [List.length_append] at hi
    rcases Nat.lt_or_ge i l.length with z | z
    · rw [d3 (mk + i) (by omega), a4 i z, gd_l z]
    · have e := d4 (i - l.length) (by omega)
      rw [show mk + l.length + (i - l.length) = mk + i from by omega] at e
      rw [e]
      have g := gd_r (a := l) (b := l') (i - l.length)
      rw [show l.length + (i - l.length) = i from by omega] at g
      exact g.symm
theorem c_widenMk (h : MkL mk σ) (h1 : L.1 1 = nI m) (hm : mk + m ≤ 21504) : Tm (fun k => f_X5_widenMarks k 0 L σ) (fun r => r.1 = (0, 0) ∧ CoP σ r ∧ MrO mk [] σ r.2.1 ∧ mk + m ≤ sN r.2.1 41) := by
  obtain ⟨c1, c2, c3⟩ := h
  have ea : ∀ τ : CS, τ.1 4011 = nI mk → τ.1 4011 + L.1 1 = nI (mk + m) := fun τ e => by rw [e, h1, n_add (by omega)]
  have b2 : ∀ (τ : CS) (n1 n2 : Nat), (n1 + PhC τ ≤ PhC σ ∧ n2 + PhS τ ≤ PhS σ) → MrO mk [] σ τ → mk + m ≤ sN τ 41 → Tm (fun k => f_X5_widenMarks k 1 L τ) (fun q => q.1 = (0, 0) ∧ CoP σ (q.1, q.2.1, (n1 + q.2.2.1, n2 + q.2.2.2)) ∧ MrO mk [] σ q.2.1 ∧ mk + m ≤ sN q.2.1 41) := by
    intro τ n1 n2 co cd hh
    have e1 : τ.1 4011 = nI mk := cd.2.1.1
    have e2 : sN τ 41 ≤ 21504 := cd.2.1.2.2
    refine Tm_suc (fun k => by rw [f_X5_widenMarks]) ?_
    rw [ea τ e1]
    refine Tm_yes ?_ ?_
    · show nI (mk + m) ≤ nI (sN τ 41)
      rw [n_le (by omega) (by omega)]; exact hh
    · refine Tm_suc (fun k => by rw [f_X5_widenMarks]) ?_
      exact Tm_some ⟨rfl, ⟨by show n1 + 0 + PhC τ ≤ _; omega, by show n2 + 0 + PhS τ ≤ _; omega⟩, cd, hh⟩
  refine Tm_suc (fun k => by rw [f_X5_widenMarks]) ?_
  rw [ea σ c1]
  refine Tm_ite (fun c => ?_) (fun c => ?_)
  · have c' : nI (mk + m) ≤ nI (sN σ 41) := c
    rw [n_le (by omega) (by omega)] at c'
    refine Tm_mono (b2 σ 0 0 ⟨by omega, by omega⟩ (MrO_0 ⟨c1, c2, c3⟩) c') (fun q z => ?_)
    rw [Nat.zero_add, Nat.zero_add] at z
    exact z
  · have c' : ¬ nI (mk + m) ≤ nI (sN σ 41) := c
    rw [n_le (by omega) (by omega)] at c'
    have e9 : (21504 : Int32).toNatClampNeg = 21504 := rfl
    have lt : sN σ 41 < 21504 := by omega
    refine Tm_no ?_ ?_
    · show ¬ nI 21504 ≤ nI (sN σ 41)
      rw [n_le (by omega) (by omega)]; omega
    · refine Tm_chk ⟨by decide, by decide, by omega⟩ (Tm_chk (by rw [e9]; exact lt) ?_)
      refine Tm_adR ?_
      have ph := Ph_z41 (σ := σ) lt
      have n41 : sN (uZ σ 41 21504) 41 = 21504 := by show updN (sN σ) 41 21504 41 = _; unfold updN; rw [if_pos rfl]
      refine Tm_mono (b2 (uZ σ 41 21504) 1 21504 ⟨by omega, by omega⟩ ⟨⟨fun _ _ => rfl, rfl, fun k hk => ⟨updG_other hk, if_neg hk⟩, rfl, rfl⟩, ⟨c1, by rw [n41]; show mk + 0 ≤ _; omega, by rw [n41]; exact Nat.le_refl _⟩, fun i hi => ?_, fun i hi => absurd hi (Nat.not_lt_zero _)⟩ (by rw [n41]; exact hm)) (fun q y => y)
      show updG σ.2.2.1 41 (fun i => if i < sN σ 41 then σ.2.2.1 41 i else 0) 41 i = _
      rw [updG_same]
      show (if i < sN σ 41 then σ.2.2.1 41 i else 0) = _
      rw [if_pos (by omega)]
theorem uA_r {τ : CS} {k i : Nat} {x : Int32} : (uA τ k i x).2.2.1 k = upd (τ.2.2.1 k) i x := updG_same
theorem MrO_1 (h : MrO mk [] σ τ) (hn : mk + 1 ≤ sN τ 41) (x : Int32) : MrO mk [x] σ (uI (uA τ 41 mk x) 4011 (nI (mk + 1))) := by
  obtain ⟨h1, ⟨h2, h3, h4⟩, h5, h6⟩ := h
  refine ⟨MkF_t h1 ⟨fun j hj => uI_o hj, rfl, fun k hk => ⟨updG_other hk, rfl⟩, rfl, rfl⟩, ⟨uI_s, hn, h4⟩, fun i hi => ?_, fun i hi => ?_⟩
  · rw [← h5 i hi]
    show updG τ.2.2.1 41 (upd (τ.2.2.1 41) mk x) 41 i = _
    rw [updG_same, upd_other (by omega)]
  · have hi' : i < 1 := hi
    rw [show i = 0 from by omega]
    show updG τ.2.2.1 41 (upd (τ.2.2.1 41) mk x) 41 (mk + 0) = x
    rw [updG_same, Nat.add_zero, upd_same]
theorem c_mark (h : MkL mk σ) (hm : mk + 1 ≤ 21504) : Tm (fun k => f_X5_mark k 0 L σ) (fun r => r.1 = (0, nI mk) ∧ CoP σ r ∧ MrO mk [L.1 1] σ r.2.1) := by
  refine Tm_suc (fun k => by rw [f_X5_mark]) ?_
  refine Tm_oxc (c_widenMk (m := 1) h rfl hm) (fun r z => by rw [z.1]) (fun r z => ?_)
  obtain ⟨z1, z2, z3, z4⟩ := z
  have e1 : r.2.1.1 4011 = nI mk := z3.2.1.1
  have s3 := z3.2.1.2.2
  rw [e1]
  refine Tm_chk (u_in (by rw [u_n (by omega)]; omega) (by omega)) ?_
  rw [n_cl (by omega)]
  have e2 : (uA r.2.1 41 mk (L.1 1)).1 4011 + 1 = nI (mk + 1) := by
    show r.2.1.1 4011 + 1 = _
    rw [e1, n_add1]
  rw [e2]
  refine Tm_some ⟨?_, ?_, MrO_1 z3 z4 _⟩
  · show (0, (uI (uA r.2.1 41 mk (L.1 1)) 4011 (nI (mk + 1))).1 4011 - 1) = _
    rw [uI_s, sub1_n (by omega)]
  · have ph := Ph_s (σ := r.2.1) (σ' := uI (uA r.2.1 41 mk (L.1 1)) 4011 (nI (mk + 1))) rfl
    obtain ⟨p1, p2⟩ := z2
    refine ⟨?_, ?_⟩
    · show r.2.2.1 + 0 + PhC (uI (uA r.2.1 41 mk (L.1 1)) 4011 (nI (mk + 1))) ≤ _
      omega
    · show r.2.2.2 + 0 + PhS (uI (uA r.2.1 41 mk (L.1 1)) 4011 (nI (mk + 1))) ≤ _
      omega
theorem c_postpone (h : MkL mk σ) (hm : mk + 3 ≤ 21504) : Tm (fun k => f_X5_postpone k 0 L σ) (fun r => r.1 = (0, 0) ∧ CoP σ r ∧ MrO mk [L.1 1, L.1 2, L.1 3] σ r.2.1) := by
  refine Tm_suc (fun k => by rw [f_X5_postpone]) ?_
  refine Tm_oxc (c_widenMk (m := 3) h rfl hm) (fun r z => by rw [z.1]) (fun r z => ?_)
  obtain ⟨z1, z2, z3, z4⟩ := z
  have e1 : r.2.1.1 4011 = nI mk := z3.2.1.1
  have s3 := z3.2.1.2.2
  have e2 : nI mk + 1 = nI (mk + 1) := n_add1 mk
  have e3 : nI mk + 2 = nI (mk + 2) := n_add (q := 2) (by omega)
  obtain ⟨p1, p2⟩ := z2
  generalize r.2.1 = τ at *
  have f1 : (uA τ 41 mk (L.1 1)).1 4011 = nI mk := e1
  have f2 : (uA (uA τ 41 mk (L.1 1)) 41 (mk + 1) (L.1 2)).1 4011 = nI mk := e1
  rw [e1]
  refine Tm_chk (u_in (by rw [u_n (by omega)]; omega) (by omega)) ?_
  rw [n_cl (by omega), f1, e2]
  refine Tm_chk (u_in (by rw [u_n (by omega)]; show mk + 1 < sN τ 41; omega) (by show sN τ 41 ≤ _; omega)) ?_
  rw [n_cl (by omega), f2, e3]
  refine Tm_chk (u_in (by rw [u_n (by omega)]; show mk + 2 < sN τ 41; omega) (by show sN τ 41 ≤ _; omega)) ?_
  rw [n_cl (by omega)]
  refine Tm_suc (fun k => by rw [f_X5_postpone]) ?_
  have e4 : (uA (uA (uA τ 41 mk (L.1 1)) 41 (mk + 1) (L.1 2)) 41 (mk + 2) (L.1 3)).1 4011 + 3 = nI (mk + 3) := by
    show τ.1 4011 + 3 = _
    rw [e1]; exact n_add (q := 3) (by omega)
  rw [e4]
  obtain ⟨h1, ⟨h2, h3, h4⟩, h5, h6⟩ := z3
  have rw3 : (uA (uA (uA τ 41 mk (L.1 1)) 41 (mk + 1) (L.1 2)) 41 (mk + 2) (L.1 3)).2.2.1 41 = upd (upd (upd (τ.2.2.1 41) mk (L.1 1)) (mk + 1) (L.1 2)) (mk + 2) (L.1 3) := by
    rw [uA_r, uA_r, uA_r]
  refine Tm_some ⟨rfl, ?_, ⟨MkF_t h1 ⟨fun j hj => ?_, rfl, fun k hk => ⟨?_, rfl⟩, rfl, rfl⟩, ⟨uI_s, z4, h4⟩, fun i hi => ?_, fun i hi => ?_⟩⟩
  · have ph := Ph_s (σ := τ) (σ' := uI (uA (uA (uA τ 41 mk (L.1 1)) 41 (mk + 1) (L.1 2)) 41 (mk + 2) (L.1 3)) 4011 (nI (mk + 3))) rfl
    refine ⟨?_, ?_⟩
    · show r.2.2.1 + 0 + PhC (uI (uA (uA (uA τ 41 mk (L.1 1)) 41 (mk + 1) (L.1 2)) 41 (mk + 2) (L.1 3)) 4011 (nI (mk + 3))) ≤ _
      omega
    · show r.2.2.2 + 0 + PhS (uI (uA (uA (uA τ 41 mk (L.1 1)) 41 (mk + 1) (L.1 2)) 41 (mk + 2) (L.1 3)) 4011 (nI (mk + 3))) ≤ _
      omega
  · exact uI_o hj
  · show updG (updG (updG τ.2.2.1 41 _) 41 _) 41 _ k = _
    rw [updG_other hk, updG_other hk, updG_other hk]
  · show (uA (uA (uA τ 41 mk (L.1 1)) 41 (mk + 1) (L.1 2)) 41 (mk + 2) (L.1 3)).2.2.1 41 i = _
    rw [rw3, upd_other (by omega), upd_other (by omega), upd_other (by omega)]
    exact h5 i hi
  · show (uA (uA (uA τ 41 mk (L.1 1)) 41 (mk + 1) (L.1 2)) 41 (mk + 2) (L.1 3)).2.2.1 41 (mk + i) = _
    have hi' : i < 3 := hi
    rw [rw3]
    rcases (show i = 0 ∨ i = 1 ∨ i = 2 by omega) with w | w | w
    · rw [w, upd_other (by omega), upd_other (by omega), Nat.add_zero, upd_same]; rfl
    · rw [w, upd_other (by omega), upd_same]; rfl
    · rw [w, upd_same]; rfl
end CVC
end JnS444
section JnS445
/-! The class: how its parser stands. -/
section CVD
variable {σ σ' σ2 τ : CS} {L : LV} {b : Bool} {T : Nat → Int32} {n q q' u al o v mk mk' p sz sz' nc nc' m : Nat} {x y z : Int32} {l l' : List Int32}
/-- a name that is told: bytes, what it is, of which unit, slot, whether it is hidden -/
abbrev Ent := List Int32 × Nat × Nat × Nat × Bool
def e0E : Ent := ([], 0, 0, 0, false)
/-- the names' table -/
def TbR (b : Bool) (tb : List Ent) (σ : CS) : Prop := σ.1 (fP b 11) = nI tb.length ∧ tb.length ≤ 256 ∧ ∀ i, i < tb.length → okN (tb.getD i e0E).1 ∧ σ.2.2.2.1 (pR5 b) i = kyH (tb.getD i e0E).1 ∧ σ.2.2.2.1 (pR6 b) i = kyL (tb.getD i e0E).1 ∧ σ.2.2.1 (pR7 b) i = nI (tb.getD i e0E).2.1 ∧ σ.2.2.1 (pR8 b) i = nI (tb.getD i e0E).2.2.1 ∧ σ.2.2.1 (pR9 b) i = nI (tb.getD i e0E).2.2.2.1 ∧ σ.2.2.1 (pR10 b) i = (if (tb.getD i e0E).2.2.2.2 = true then 1 else 0)
/-- what reading exps leaves, but for names, code and marks that come behind -/
def XK (b : Bool) (u nc sz mk : Nat) (σ σ' : CS) : Prop := ((∀ j, ¬ (j = 404 ∨ (3702 ≤ j ∧ j ≤ 3704) ∨ (4005 ≤ j ∧ j ≤ 4020 ∧ ¬ j = 4008 ∧ ¬ j = 4009 ∧ ¬ j = 4013) ∨ j = fP b 1 ∨ j = fP b 11 ∨ j = fP b 19) → σ'.1 j = σ.1 j) ∧ (∀ j, ¬ (j = 3705 ∨ j = 3706) → σ'.2.1 j = σ.2.1 j)) ∧ ((∀ k, ¬ ((5 ≤ k ∧ k ≤ 11) ∨ k = 41 ∨ k = 43 ∨ k = 51 ∨ k = pR7 b ∨ k = pR8 b ∨ k = pR9 b ∨ k = pR10 b ∨ k = pR16 b) → σ'.2.2.1 k = σ.2.2.1 k) ∧ (∀ k, ¬ (k = 41 ∨ k = 43 ∨ k = 51) → sN σ' k = sN σ k) ∧ (∀ k, ¬ (k = pR5 b ∨ k = pR6 b) → σ'.2.2.2.1 k = σ.2.2.2.1 k)) ∧ ((sCur σ' = sCur σ ∧ sOt σ' = sOt σ ∧ sPr σ' = sPr σ ∧ sPp σ' = sPp σ) ∧ (∀ c, ¬ c = b → sKd σ' c = sKd σ c) ∧ σ'.2.2.2.2.2.2 = σ.2.2.2.2.2.2) ∧ (∀ i, ¬ i = u → σ'.2.2.1 (pR16 b) i = σ.2.2.1 (pR16 b) i) ∧ (∀ i, i < nc → (σ'.2.2.2.1 (pR5 b) i = σ.2.2.2.1 (pR5 b) i ∧ σ'.2.2.2.1 (pR6 b) i = σ.2.2.2.1 (pR6 b) i) ∧ (σ'.2.2.1 (pR7 b) i = σ.2.2.1 (pR7 b) i ∧ σ'.2.2.1 (pR8 b) i = σ.2.2.1 (pR8 b) i) ∧ σ'.2.2.1 (pR9 b) i = σ.2.2.1 (pR9 b) i ∧ σ'.2.2.1 (pR10 b) i = σ.2.2.1 (pR10 b) i) ∧ (∀ i, i < sz → cdr b σ' i = cdr b σ i ∧ cdr (!b) σ' i = cdr (!b) σ i) ∧ (∀ i, i < mk → σ'.2.2.1 41 i = σ.2.2.1 41 i) ∧ (sz ≤ cdn b σ' ∧ (cdn b σ' = 36864 ∨ (sN σ' 43 = 1024 ∧ sN σ' 51 = 1024))) ∧ (mk ≤ sN σ' 41 ∧ sN σ' 41 ≤ 21504)
theorem XK_t (a : XK b u nc sz mk σ σ') (d : XK b u nc' sz' mk' σ' σ2) (h1 : nc ≤ nc') (h2 : sz ≤ sz') (h3 : mk ≤ mk') : XK b u nc sz mk σ σ2 := by
  obtain ⟨⟨a1, a2⟩, ⟨a3, a4, a5⟩, ⟨⟨a6, a7, a8, a9⟩, a10, a11⟩, a12, a13, a14, a15, a16, a17⟩ := a
  obtain ⟨⟨d1, d2⟩, ⟨d3, d4, d5⟩, ⟨⟨d6, d7, d8, d9⟩, d10, d11⟩, d12, d13, d14, d15, d16, d17⟩ := d
  refine ⟨⟨fun j hj => (d1 j hj).trans (a1 j hj), fun j hj => (d2 j hj).trans (a2 j hj)⟩, ⟨fun k hk => (d3 k hk).trans (a3 k hk), fun k hk => (d4 k hk).trans (a4 k hk), fun k hk => (d5 k hk).trans (a5 k hk)⟩, ⟨⟨d6.trans a6, d7.trans a7, d8.trans a8, d9.trans a9⟩, fun c hc => (d10 c hc).trans (a10 c hc), d11.trans a11⟩, fun i hi => (d12 i hi).trans (a12 i hi), fun i hi => ?_, fun i hi => ⟨(d14 i (by omega)).1.trans (a14 i hi).1, (d14 i (by omega)).2.trans (a14 i hi).2⟩, fun i hi => (d15 i (by omega)).trans (a15 i hi), ⟨by omega, d16.2⟩, ⟨by omega, d17.2⟩⟩
  have y := d13 i (by omega)
  have w := a13 i hi
  exact ⟨⟨y.1.1.trans w.1.1, y.1.2.trans w.1.2⟩, ⟨y.2.1.1.trans w.2.1.1, y.2.1.2.trans w.2.1.2⟩, y.2.2.1.trans w.2.2.1, y.2.2.2.trans w.2.2.2⟩
/-- how the parser stands: program b, unit u, what is allowed; names, how many are open, token, variables, marks, slots of iters, code -/
def QS (T : Nat → Int32) (n : Nat) (b : Bool) (u al : Nat) (tb : List Ent) (o q v mk p sz : Nat) (σ : CS) : Prop := LxQ T n q σ ∧ CdL b sz σ ∧ MkL mk σ ∧ TbR b tb σ ∧ (sPp σ = some b ∧ σ.1 4003 = nI u ∧ σ.1 4004 = nI al ∧ σ.1 4006 = 0) ∧ (σ.1 4005 = nI o ∧ o ≤ 20) ∧ (σ.2.2.1 (pR16 b) u = nI v ∧ v ≤ 60) ∧ σ.1 (fP b 19) = nI p
variable {tb tb' : List Ent}
theorem XK_r (h : QS T n b u al tb o q v mk p sz σ) : XK b u tb.length sz mk σ σ := ⟨⟨fun _ _ => rfl, fun _ _ => rfl⟩, ⟨fun _ _ => rfl, fun _ _ => rfl, fun _ _ => rfl⟩, ⟨⟨rfl, rfl, rfl, rfl⟩, fun _ _ => rfl, rfl⟩, fun _ _ => rfl, fun _ _ => ⟨⟨rfl, rfl⟩, ⟨rfl, rfl⟩, rfl, rfl⟩, fun _ _ => ⟨rfl, rfl⟩, fun _ _ => rfl, h.2.1.2, h.2.2.1.2⟩
/-- costs, where it may throw -/
def CoT (σ : CS) (r : RS) : Prop := (r.1.1 = 0 → CoP σ r) ∧ (¬ r.1.1 = 0 → r.2.2.1 + PhC r.2.1 ≤ PhC σ + 1 ∧ r.2.2.2 + PhS r.2.1 ≤ PhS σ + 6)
theorem CoT_p {r : RS} (h : CoP σ r) : CoT σ r := ⟨fun _ => h, fun _ => ⟨by have := h.1; omega, by have := h.2; omega⟩⟩
theorem CoT_t {n1 n2 : Nat} {q : RS} (a : n1 + PhC τ ≤ PhC σ ∧ n2 + PhS τ ≤ PhS σ) (d : CoT τ q) : CoT σ (q.1, q.2.1, (n1 + q.2.2.1, n2 + q.2.2.2)) := by
  refine ⟨fun e => ?_, fun e => ?_⟩
  · have z := d.1 e
    have z1 := z.1
    have z2 := z.2
    exact ⟨by show n1 + q.2.2.1 + PhC q.2.1 ≤ _; omega, by show n2 + q.2.2.2 + PhS q.2.1 ≤ _; omega⟩
  · have z := d.2 e
    exact ⟨by show n1 + q.2.2.1 + PhC q.2.1 ≤ _; omega, by show n2 + q.2.2.2 + PhS q.2.1 ≤ _; omega⟩
theorem TbR_s (h : TbR b tb σ) (e1 : σ'.1 (fP b 11) = σ.1 (fP b 11)) (e5 : σ'.2.2.2.1 (pR5 b) = σ.2.2.2.1 (pR5 b)) (e6 : σ'.2.2.2.1 (pR6 b) = σ.2.2.2.1 (pR6 b)) (e7 : σ'.2.2.1 (pR7 b) = σ.2.2.1 (pR7 b)) (e8 : σ'.2.2.1 (pR8 b) = σ.2.2.1 (pR8 b)) (e9 : σ'.2.2.1 (pR9 b) = σ.2.2.1 (pR9 b)) (e10 : σ'.2.2.1 (pR10 b) = σ.2.2.1 (pR10 b)) : TbR b tb σ' := by
  unfold TbR
  rw [e1, e5, e6, e7, e8, e9, e10]
  exact h
theorem LxQ_s (h : LxQ T n q σ) (e1 : ∀ j, 3701 ≤ j → j ≤ 3704 → σ'.1 j = σ.1 j) (e2 : σ'.2.1 3705 = σ.2.1 3705 ∧ σ'.2.1 3706 = σ.2.1 3706) (e3 : σ'.2.2.1 38 = σ.2.2.1 38) (e4 : sN σ' 38 = sN σ 38) (e5 : σ'.2.2.2.1 39 = σ.2.2.2.1 39) : LxQ T n q σ' := by
  unfold LxQ cN
  rw [e1 3701 (by decide) (by decide), e1 3702 (by decide) (by decide), e1 3703 (by decide) (by decide), e1 3704 (by decide) (by decide), e2.1, e2.2, e3, e4, e5]
  exact h
theorem CdL_s (h : CdL b sz σ) (e1 : σ'.1 (fP b 1) = σ.1 (fP b 1)) (e2 : sKd σ' b = sKd σ b) (e3 : sN σ' 43 = sN σ 43 ∧ sN σ' 51 = sN σ 51) : CdL b sz σ' := by
  have en : cdn b σ' = cdn b σ := by
    show sN σ' (pR0 (sKd σ' b)) = sN σ (pR0 (sKd σ b))
    rw [e2]
    rcases pR0_c (sKd σ b) with z | z
    · rw [z]; exact e3.1
    · rw [z]; exact e3.2
  unfold CdL
  rw [e1, en, e3.1, e3.2]
  exact h
theorem fP_c (b : Bool) (j : Nat) : fP b j = 5000 + j ∨ fP b j = 6800 + j := by
  cases b
  · exact Or.inr rfl
  · exact Or.inl rfl
theorem pR_c (b : Bool) : (pR5 b = 44 ∧ pR6 b = 45 ∧ pR7 b = 46 ∧ pR8 b = 47 ∧ pR9 b = 48 ∧ pR10 b = 49 ∧ pR14 b = 70 ∧ pR16 b = 72) ∨ (pR5 b = 52 ∧ pR6 b = 53 ∧ pR7 b = 54 ∧ pR8 b = 55 ∧ pR9 b = 56 ∧ pR10 b = 57 ∧ pR14 b = 59 ∧ pR16 b = 61) := by
  cases b
  · left; exact ⟨rfl, rfl, rfl, rfl, rfl, rfl, rfl, rfl⟩
  · right; exact ⟨rfl, rfl, rfl, rfl, rfl, rfl, rfl, rfl⟩
/-- code is laid -/
theorem QS_cd (h : QS T n b u al tb o q v mk p sz σ) (a : CdO b sz l σ σ') : QS T n b u al tb o q v mk p (sz + l.length) σ' ∧ XK b u tb.length sz mk σ σ' := by
  obtain ⟨h1, h2, h3, h4, ⟨h5, h5', h5''⟩, ⟨h6, h6'⟩, ⟨h7, h7'⟩, h8⟩ := h
  obtain ⟨a1, a2, a3, a4⟩ := a
  obtain ⟨f1, f2, f3, f4, f5, f6, f7⟩ := a1
  have pc := pR_c b
  have fc1 := fP_c b 1
  have fc2 := fP_c b 11
  have fc3 := fP_c b 19
  have f1' : ∀ j, j < 5000 → σ'.1 j = σ.1 j := fun j hj => f1 j (by omega)
  refine ⟨⟨LxQ_s h1 (fun j _ hj => f1' j (by omega)) (by rw [f2]; exact ⟨rfl, rfl⟩) (f3 38 (by decide)).1 (f3 38 (by decide)).2 (by rw [f4]), a2, ?_, TbR_s h4 (f1 _ (fP_ne b (by decide))) (by rw [f4]) (by rw [f4]) (f3 _ (by omega)).1 (f3 _ (by omega)).1 (f3 _ (by omega)).1 (f3 _ (by omega)).1, ⟨by rw [f5.2.2.2]; exact h5, by rw [f1' _ (by decide)]; exact h5', ⟨by rw [f1' _ (by decide)]; exact h5''.1, by rw [f1' _ (by decide)]; exact h5''.2⟩⟩, ⟨by rw [f1' _ (by decide)]; exact h6, h6'⟩, ⟨by rw [(f3 _ (by omega)).1]; exact h7, h7'⟩, by rw [f1 _ (fP_ne b (by decide))]; exact h8⟩, ?_⟩
  · unfold MkL
    rw [f1' _ (by decide), (f3 41 (by decide)).2]
    exact h3
  · refine ⟨⟨fun j hj => f1 j (by omega), fun j _ => by rw [f2]⟩, ⟨fun k hk => (f3 k (by omega)).1, fun k hk => (f3 k (by omega)).2, fun k _ => by rw [f4]⟩, ⟨f5, f6, f7⟩, fun i _ => by rw [(f3 _ (by omega)).1], fun i hi => ⟨⟨by rw [f4], by rw [f4]⟩, ⟨by rw [(f3 _ (by omega)).1], by rw [(f3 _ (by omega)).1]⟩, by rw [(f3 _ (by omega)).1], by rw [(f3 _ (by omega)).1]⟩, a3, fun i hi => by rw [(f3 41 (by decide)).1], ⟨by have := a2.2.1; omega, a2.2.2⟩, ?_⟩
    rw [(f3 41 (by decide)).2]
    exact h3.2
/-- marks are laid -/
theorem QS_mk (h : QS T n b u al tb o q v mk p sz σ) (a : MrO mk l σ σ') : QS T n b u al tb o q v (mk + l.length) p sz σ' ∧ XK b u tb.length sz mk σ σ' := by
  obtain ⟨h1, h2, h3, h4, ⟨h5, h5', h5''⟩, ⟨h6, h6'⟩, ⟨h7, h7'⟩, h8⟩ := h
  obtain ⟨⟨f1, f2, f3, f4, f5⟩, a2, a3, a4⟩ := a
  have pc := pR_c b
  have fc1 := fP_c b 1
  have fc2 := fP_c b 11
  have fc3 := fP_c b 19
  have kd : ∀ c, sKd σ' c = sKd σ c := fun c => by show σ'.2.2.2.2.2.1.2.2.2.2 c = _; rw [f5]
  have cd : ∀ c i, cdr c σ' i = cdr c σ i := fun c i => by
    show σ'.2.2.1 (pR0 (sKd σ' c)) i = _
    rw [kd c]
    rcases pR0_c (sKd σ c) with z | z
    · rw [(f3 _ (by omega)).1]
    · rw [(f3 _ (by omega)).1]
  have cl := CdL_s h2 (f1 _ (by omega)) (kd b) ⟨(f3 43 (by decide)).2, (f3 51 (by decide)).2⟩
  refine ⟨⟨LxQ_s h1 (fun j _ hj => f1 j (by omega)) (by rw [f2]; exact ⟨rfl, rfl⟩) (f3 38 (by decide)).1 (f3 38 (by decide)).2 (by rw [f4]), cl, a2, TbR_s h4 (f1 _ (by omega)) (by rw [f4]) (by rw [f4]) (f3 _ (by omega)).1 (f3 _ (by omega)).1 (f3 _ (by omega)).1 (f3 _ (by omega)).1, ⟨by show σ'.2.2.2.2.2.1.2.2.2.1 = _; rw [f5]; exact h5, by rw [f1 _ (by decide)]; exact h5', ⟨by rw [f1 _ (by decide)]; exact h5''.1, by rw [f1 _ (by decide)]; exact h5''.2⟩⟩, ⟨by rw [f1 _ (by decide)]; exact h6, h6'⟩, ⟨by rw [(f3 _ (by omega)).1]; exact h7, h7'⟩, by rw [f1 _ (by omega)]; exact h8⟩, ?_⟩
  refine ⟨⟨fun j hj => f1 j (by omega), fun j _ => by rw [f2]⟩, ⟨fun k hk => (f3 k (by omega)).1, fun k hk => (f3 k (by omega)).2, fun k _ => by rw [f4]⟩, ⟨⟨by show σ'.2.2.2.2.2.1.1 = _; rw [f5], by show σ'.2.2.2.2.2.1.2.1 = _; rw [f5], by show σ'.2.2.2.2.2.1.2.2.1 = _; rw [f5], by show σ'.2.2.2.2.2.1.2.2.2.1 = _; rw [f5]⟩, fun c _ => kd c, by rw [f5]⟩, fun i _ => by rw [(f3 _ (by omega)).1], fun i hi => ⟨⟨by rw [f4], by rw [f4]⟩, ⟨by rw [(f3 _ (by omega)).1], by rw [(f3 _ (by omega)).1]⟩, by rw [(f3 _ (by omega)).1], by rw [(f3 _ (by omega)).1]⟩, fun i _ => ⟨cd b i, cd (!b) i⟩, a3, cl.2, ⟨by have := a2.2.1; omega, a2.2.2⟩⟩
/-- fields that the parser may set: the rest stays -/
theorem XK_f (h : QS T n b u al tb o q v mk p sz σ) (f1 : ∀ j, ¬ (j = 404 ∨ (4005 ≤ j ∧ j ≤ 4020 ∧ ¬ j = 4008 ∧ ¬ j = 4009 ∧ ¬ j = 4013) ∨ j = fP b 19) → σ'.1 j = σ.1 j) (f2 : σ'.2 = σ.2) {mk' : Nat} (hm : mk' ≤ mk) : XK b u tb.length sz mk' σ σ' := by
  obtain ⟨h1, h2, h3, h4, ⟨h5, h5', h5''⟩, ⟨h6, h6'⟩, ⟨h7, h7'⟩, h8⟩ := h
  have fc1 := fP_c b 1
  have fc2 := fP_c b 11
  have fc3 := fP_c b 19
  have sn : ∀ k, sN σ' k = sN σ k := fun k => by show σ'.2.2.2.2.1 k = _; rw [f2]
  have kd : ∀ c, sKd σ' c = sKd σ c := fun c => by show σ'.2.2.2.2.2.1.2.2.2.2 c = _; rw [f2]
  have cl := CdL_s h2 (f1 _ (by rcases fc1 with z | z <;> rcases fc3 with w | w <;> omega)) (kd b) ⟨sn 43, sn 51⟩
  have m3 := h3.2
  refine ⟨⟨fun j hj => f1 j (by omega), fun j _ => by rw [f2]⟩, ⟨fun k hk => by rw [f2], fun k hk => sn k, fun k _ => by rw [f2]⟩, ⟨⟨by show σ'.2.2.2.2.2.1.1 = _; rw [f2], by show σ'.2.2.2.2.2.1.2.1 = _; rw [f2], by show σ'.2.2.2.2.2.1.2.2.1 = _; rw [f2], by show σ'.2.2.2.2.2.1.2.2.2.1 = _; rw [f2]⟩, fun c _ => kd c, by rw [f2]⟩, fun i _ => by rw [f2], fun i hi => by rw [f2]; exact ⟨⟨rfl, rfl⟩, ⟨rfl, rfl⟩, rfl, rfl⟩, fun i _ => ⟨?_, ?_⟩, fun i _ => by rw [f2], cl.2, ⟨by rw [sn]; omega, by rw [sn]; exact m3.2⟩⟩
  · show σ'.2.2.1 (pR0 (sKd σ' b)) i = _; rw [kd b, f2]
  · show σ'.2.2.1 (pR0 (sKd σ' (!b))) i = _; rw [kd (!b), f2]
theorem QS_f (h : QS T n b u al tb o q v mk p sz σ) {o' mk' p' : Nat} (f1 : ∀ j, ¬ (j = 404 ∨ (4005 ≤ j ∧ j ≤ 4020 ∧ ¬ j = 4006 ∧ ¬ j = 4008 ∧ ¬ j = 4009 ∧ ¬ j = 4013) ∨ j = fP b 19) → σ'.1 j = σ.1 j) (f2 : σ'.2 = σ.2) (e5 : σ'.1 4005 = nI o') (ho : o' ≤ 20) (e11 : σ'.1 4011 = nI mk') (hm : mk' ≤ mk) (e19 : σ'.1 (fP b 19) = nI p') : QS T n b u al tb o' q v mk' p' sz σ' ∧ XK b u tb.length sz mk' σ σ' := by
  obtain ⟨h1, h2, h3, h4, ⟨h5, h5', h5''⟩, ⟨h6, h6'⟩, ⟨h7, h7'⟩, h8⟩ := h
  have fc1 := fP_c b 1
  have fc2 := fP_c b 11
  have fc3 := fP_c b 19
  have sn : ∀ k, sN σ' k = sN σ k := fun k => by show σ'.2.2.2.2.1 k = _; rw [f2]
  have kd : ∀ c, sKd σ' c = sKd σ c := fun c => by show σ'.2.2.2.2.2.1.2.2.2.2 c = _; rw [f2]
  have cl := CdL_s h2 (f1 _ (by rcases fc1 with z | z <;> rcases fc3 with w | w <;> omega)) (kd b) ⟨sn 43, sn 51⟩
  have m3 := h3.2
  have c19 : ∀ j, j < 5000 → ¬ j = fP b 19 := fun j hj => by omega
  refine ⟨⟨LxQ_s h1 (fun j _ hj => f1 j (by omega)) (by rw [f2]; exact ⟨rfl, rfl⟩) (by rw [f2]) (sn 38) (by rw [f2]), cl, ⟨e11, by rw [sn]; omega, by rw [sn]; exact m3.2⟩, TbR_s h4 (f1 _ (by have := fP_ne b (i := 11) (j := 19) (by decide); omega)) (by rw [f2]) (by rw [f2]) (by rw [f2]) (by rw [f2]) (by rw [f2]) (by rw [f2]), ⟨by show σ'.2.2.2.2.2.1.2.2.2.1 = _; rw [f2]; exact h5, by rw [f1 _ (by omega)]; exact h5', ⟨by rw [f1 _ (by omega)]; exact h5''.1, by rw [f1 _ (by omega)]; exact h5''.2⟩⟩, ⟨e5, ho⟩, ⟨by rw [f2]; exact h7, h7'⟩, e19⟩, ?_⟩
  refine ⟨⟨fun j hj => f1 j (by omega), fun j _ => by rw [f2]⟩, ⟨fun k hk => by rw [f2], fun k hk => sn k, fun k _ => by rw [f2]⟩, ⟨⟨by show σ'.2.2.2.2.2.1.1 = _; rw [f2], by show σ'.2.2.2.2.2.1.2.1 = _; rw [f2], by show σ'.2.2.2.2.2.1.2.2.1 = _; rw [f2], by show σ'.2.2.2.2.2.1.2.2.2.1 = _; rw [f2]⟩, fun c _ => kd c, by rw [f2]⟩, fun i _ => by rw [f2], fun i hi => by rw [f2]; exact ⟨⟨rfl, rfl⟩, ⟨rfl, rfl⟩, rfl, rfl⟩, fun i _ => ⟨?_, ?_⟩, fun i _ => by rw [f2], cl.2, ⟨by rw [sn]; omega, by rw [sn]; exact m3.2⟩⟩
  · show σ'.2.2.1 (pR0 (sKd σ' b)) i = _; rw [kd b, f2]
  · show σ'.2.2.1 (pR0 (sKd σ' (!b))) i = _; rw [kd (!b), f2]
/-- a fault as it is kept: told by the parser, or the lexer's -/
def FltC (y : Nat × Nat) (σ : CS) : Prop := (σ.1 4006 = nI y.1 ∧ σ.1 4007 = nI y.2 ∧ 1 ≤ y.1 ∧ y.1 ≤ 8) ∨ (y.1 = 1 ∧ σ.1 4006 = 0 ∧ σ.1 3703 = nI y.2)
/-- the next token -/
def QA (T : Nat → Int32) (n : Nat) (b : Bool) (u al : Nat) (tb : List Ent) (o q v mk p sz : Nat) (σ : CS) (r : RS) : Prop := (tkK T n q = 0 → r.1.1 = 1 ∧ FltC (1, q) r.2.1) ∧ (¬ tkK T n q = 0 → r.1.1 = 0 ∧ QS T n b u al tb o q v mk p sz r.2.1) ∧ CoT σ r ∧ XK b u tb.length sz mk σ r.2.1
theorem c_advQ (h : QS T n b u al tb o q v mk p sz σ) : Tm (fun k => f_X2_advance k 0 L σ) (QA T n b u al tb o (tkN T n q) v mk p sz σ) := by
  have hh := h
  obtain ⟨h1, h2, h3, h4, ⟨h5, h5', h5''⟩, ⟨h6, h6'⟩, ⟨h7, h7'⟩, h8⟩ := h
  refine Tm_mono (c_adv h1) (fun r z => ?_)
  obtain ⟨z1, z2, kd, st, en, hi, lo, z3⟩ := z
  have fc1 := fP_c b 1
  have fc2 := fP_c b 11
  have fc3 := fP_c b 19
  have f1 : ∀ j, ¬ (3702 ≤ j ∧ j ≤ 3704) → r.2.1.1 j = σ.1 j := fun j hj => by
    rw [z3]
    show upd (upd (upd σ.1 3702 kd) 3703 st) 3704 en j = _
    rw [upd_other (by omega), upd_other (by omega), upd_other (by omega)]
  have f2 : r.2.1.2.2 = σ.2.2 := by rw [z3]; rfl
  have fl : ∀ j, ¬ (j = 3705 ∨ j = 3706) → r.2.1.2.1 j = σ.2.1 j := fun j hj => by
    rw [z3]
    show updW (updW σ.2.1 3705 hi) 3706 lo j = _
    rw [updW_other (by omega), updW_other (by omega)]
  have sn : ∀ k, sN r.2.1 k = sN σ k := fun k => by show r.2.1.2.2.2.2.1 k = _; rw [f2]
  have kd' : ∀ c, sKd r.2.1 c = sKd σ c := fun c => by show r.2.1.2.2.2.2.2.1.2.2.2.2 c = _; rw [f2]
  have cl := CdL_s h2 (f1 _ (by omega)) (kd' b) ⟨sn 43, sn 51⟩
  have ph := Ph_s (σ := σ) (σ' := r.2.1) (by rw [f2])
  have xk : XK b u tb.length sz mk σ r.2.1 := by
    refine ⟨⟨fun j hj => f1 j (by omega), fl⟩, ⟨fun k hk => by rw [f2], fun k hk => sn k, fun k _ => by rw [f2]⟩, ⟨⟨by show r.2.1.2.2.2.2.2.1.1 = _; rw [f2], by show r.2.1.2.2.2.2.2.1.2.1 = _; rw [f2], by show r.2.1.2.2.2.2.2.1.2.2.1 = _; rw [f2], by show r.2.1.2.2.2.2.2.1.2.2.2.1 = _; rw [f2]⟩, fun c _ => kd' c, by rw [f2]⟩, fun i _ => by rw [f2], fun i hi => by rw [f2]; exact ⟨⟨rfl, rfl⟩, ⟨rfl, rfl⟩, rfl, rfl⟩, fun i _ => ⟨?_, ?_⟩, fun i _ => by rw [f2], cl.2, ⟨by rw [sn]; exact h3.2.1, by rw [sn]; exact h3.2.2⟩⟩
    · show r.2.1.2.2.1 (pR0 (sKd r.2.1 b)) i = _; rw [kd' b, f2]
    · show r.2.1.2.2.1 (pR0 (sKd r.2.1 (!b))) i = _; rw [kd' (!b), f2]
  refine ⟨fun e => ⟨by rw [(z1 e).1], Or.inr ⟨rfl, (f1 4006 (by omega)).trans h5''.2, (z1 e).2.2⟩⟩, fun e => ?_, ?_, xk⟩
  · obtain ⟨w1, w2, w3⟩ := z2 e
    refine ⟨by rw [w1], w3, cl, ⟨by rw [f1 _ (by omega)]; exact h3.1, by rw [sn]; exact h3.2.1, by rw [sn]; exact h3.2.2⟩, TbR_s h4 (f1 _ (by omega)) (by rw [f2]) (by rw [f2]) (by rw [f2]) (by rw [f2]) (by rw [f2]) (by rw [f2]), ⟨by show r.2.1.2.2.2.2.2.1.2.2.2.1 = _; rw [f2]; exact h5, by rw [f1 _ (by omega)]; exact h5', ⟨by rw [f1 _ (by omega)]; exact h5''.1, by rw [f1 _ (by omega)]; exact h5''.2⟩⟩, ⟨by rw [f1 _ (by omega)]; exact h6, h6'⟩, ⟨by rw [f2]; exact h7, h7'⟩, by rw [f1 _ (by omega)]; exact h8⟩
  · by_cases e : tkK T n (tkN T n q) = 0
    · obtain ⟨w1, w2, _⟩ := z1 e
      refine ⟨fun y => absurd y (by rw [w1]; decide), fun _ => ?_⟩
      rw [w2]
      exact ⟨by show 1 + PhC r.2.1 ≤ _; omega, by show 6 + PhS r.2.1 ≤ _; omega⟩
    · obtain ⟨w1, w2, _⟩ := z2 e
      refine CoT_p ⟨?_, ?_⟩
      · rw [w2]; show 0 + PhC r.2.1 ≤ _; omega
      · rw [w2]; show 0 + PhS r.2.1 ≤ _; omega
end CVD
end JnS445
section JnS446
/-! The class: steps of its parser. -/
section CVE
variable {σ σ' σ0 τ τ' : CS} {L : LV} {b : Bool} {T : Nat → Int32} {n q q' u al o v mk p sz nc0 sz0 mk0 a1 a2 m kk : Nat} {y : Int32} {l l' : List Int32} {tb : List Ent} {α : Type} {x : Fl α} {S : α → Int32 → CS → Prop} {C : Prop}
/-- how it stands, within a method that began at σ0, with what it cost so far -/
def Sx (T : Nat → Int32) (n : Nat) (b : Bool) (u al : Nat) (σ0 : CS) (nc0 sz0 mk0 a1 a2 : Nat) (tb : List Ent) (o q v mk p sz : Nat) (τ : CS) : Prop := QS T n b u al tb o q v mk p sz τ ∧ XK b u nc0 sz0 mk0 σ0 τ ∧ (a1 + PhC τ ≤ PhC σ0 ∧ a2 + PhS τ ≤ PhS σ0) ∧ nc0 ≤ tb.length ∧ sz0 ≤ sz ∧ mk0 ≤ mk
theorem Sx_0 (h : QS T n b u al tb o q v mk p sz σ) : Sx T n b u al σ tb.length sz mk 0 0 tb o q v mk p sz σ := ⟨h, XK_r h, ⟨by omega, by omega⟩, Nat.le_refl _, Nat.le_refl _, Nat.le_refl _⟩
/-- what a method leaves: it throws where x is a fault, which is kept; else S of what x is -/
def QPo (b : Bool) (u nc0 sz0 mk0 : Nat) {α : Type} (x : Fl α) (S : α → Int32 → CS → Prop) (σ0 : CS) (a1 a2 : Nat) (r : RS) : Prop := (∀ t, x = Sum.inr t → r.1.1 = 0 ∧ S t r.1.2 r.2.1) ∧ (∀ y, x = Sum.inl y → r.1.1 = 1 ∧ FltC y r.2.1) ∧ (r.1.1 = 0 → a1 + r.2.2.1 + PhC r.2.1 ≤ PhC σ0 ∧ a2 + r.2.2.2 + PhS r.2.1 ≤ PhS σ0) ∧ (¬ r.1.1 = 0 → a1 + r.2.2.1 + PhC r.2.1 ≤ PhC σ0 + 1 ∧ a2 + r.2.2.2 + PhS r.2.1 ≤ PhS σ0 + 6) ∧ XK b u nc0 sz0 mk0 σ0 r.2.1
theorem QPo_s {n1 n2 : Nat} {r : RS} (h : QPo b u nc0 sz0 mk0 x S σ0 (a1 + n1) (a2 + n2) r) : QPo b u nc0 sz0 mk0 x S σ0 a1 a2 (r.1, r.2.1, (n1 + r.2.2.1, n2 + r.2.2.2)) := by
  obtain ⟨h1, h2, h3, h4, h5⟩ := h
  refine ⟨h1, h2, fun e => ?_, fun e => ?_, h5⟩
  · have z := h3 e
    show a1 + (n1 + r.2.2.1) + PhC r.2.1 ≤ _ ∧ a2 + (n2 + r.2.2.2) + PhS r.2.1 ≤ _
    omega
  · have z := h4 e
    show a1 + (n1 + r.2.2.1) + PhC r.2.1 ≤ _ ∧ a2 + (n2 + r.2.2.2) + PhS r.2.1 ≤ _
    omega
/-- the method ends -/
theorem Qfin {t : α} (h : Sx T n b u al σ0 nc0 sz0 mk0 a1 a2 tb o q v mk p sz τ) (hs : S t y τ) : QPo b u nc0 sz0 mk0 (Sum.inr t) S σ0 a1 a2 ((0, y), τ, (0, 0)) := by
  obtain ⟨h1, h2, h3, h4⟩ := h
  refine ⟨fun t' e => by cases e; exact ⟨rfl, hs⟩, fun y e => (by cases e), fun _ => ?_, fun e => absurd rfl e, h2⟩
  show a1 + 0 + PhC τ ≤ _ ∧ a2 + 0 + PhS τ ≤ _
  omega
/-- something thrown goes through -/
theorem Qthr {r : RS} {ye : Nat × Nat} (h : Sx T n b u al σ0 nc0 sz0 mk0 a1 a2 tb o q v mk p sz τ) (e : r.1.1 = 1 ∧ FltC ye r.2.1) (c : CoT τ r) (xk : XK b u tb.length sz mk τ r.2.1) : QPo b u nc0 sz0 mk0 (Sum.inl ye : Fl α) S σ0 a1 a2 r := by
  obtain ⟨h1, h2, h3, h4, h5, h6⟩ := h
  refine ⟨fun t' e => (by cases e), fun y e' => by cases e'; exact e, fun z => absurd z (by rw [e.1]; decide), fun z => ?_, XK_t h2 xk h4 h5 h6⟩
  have w := c.2 z
  omega
/-- a call within: where it throws all throws -/
theorem st_call {β : Type} {z : Fl β} {R : β → Int32 → CS → Prop} {g : Nat → Option RS} {f : Nat → RS → Option RS} (h : Sx T n b u al σ0 nc0 sz0 mk0 a1 a2 tb o q v mk p sz τ) (t : Tm g (QPo b u tb.length sz mk z R τ 0 0)) (hx : (∃ y, z = Sum.inl y ∧ x = Sum.inl y) ∨ ∃ s, z = Sum.inr s ∧ C ∧ ∀ (τ' : CS) (ret : Int32) (n1 n2 : Nat), R s ret τ' → XK b u tb.length sz mk τ τ' → (a1 + n1 + PhC τ' ≤ PhC σ0 ∧ a2 + n2 + PhS τ' ≤ PhS σ0) → Tm (fun k => f k ((0, ret), τ', (n1, n2))) (QPo b u nc0 sz0 mk0 x S σ0 (a1 + n1) (a2 + n2))) : Tm (fun k => ox (g k) (f k)) (QPo b u nc0 sz0 mk0 x S σ0 a1 a2) := by
  have hh := h
  obtain ⟨h1, h2, h3, h4, h5, h6⟩ := h
  refine Tm_ox t (fun r w nz => ?_) (fun r w e0 => ?_)
  · rcases hx with ⟨y0, e1, e2⟩ | ⟨s, e1, _⟩
    · rw [e2]
      refine Qthr hh (w.2.1 y0 e1) ⟨fun e => absurd e nz, fun e => ?_⟩ w.2.2.2.2
      have y := w.2.2.2.1 e
      omega
    · exact absurd (w.1 s e1).1 nz
  · rcases hx with ⟨y0, e1, e2⟩ | ⟨s, e1, c, cont⟩
    · exact absurd (w.2.1 y0 e1).1 (by rw [e0]; decide)
    · have y := w.2.2.1 e0
      have k := cont r.2.1 r.1.2 r.2.2.1 r.2.2.2 (w.1 s e1).2 w.2.2.2.2 ⟨by omega, by omega⟩
      have er : ((0, r.1.2), r.2.1, (r.2.2.1, r.2.2.2)) = r := by
        rw [← e0]
      rw [er] at k
      exact Tm_mono k (fun q z => QPo_s z)
/-- the next token -/
theorem st_adv {f : Nat → RS → Option RS} (h : Sx T n b u al σ0 nc0 sz0 mk0 a1 a2 tb o q v mk p sz τ) (hx : (tkK T n (tkN T n q) = 0 ∧ x = Sum.inl (1, tkN T n q)) ∨ (¬ tkK T n (tkN T n q) = 0 ∧ C)) (cont : ∀ (τ' : CS) (r : RS), r.2.1 = τ' → C → Sx T n b u al σ0 nc0 sz0 mk0 a1 a2 tb o (tkN T n q) v mk p sz τ' → Tm (fun k => f k r) (QPo b u nc0 sz0 mk0 x S σ0 a1 a2)) : Tm (fun k => ox (f_X2_advance k 0 L τ) (f k)) (QPo b u nc0 sz0 mk0 x S σ0 a1 a2) := by
  have hh := h
  obtain ⟨h1, h2, h3, h4, h5, h6⟩ := h
  have t : Tm (fun k => f_X2_advance k 0 L τ) (fun r => QA T n b u al tb o (tkN T n q) v mk p sz τ r ∧ (r.1.1 = 0 → r.2.2 = (0, 0) ∧ PhC r.2.1 = PhC τ ∧ PhS r.2.1 = PhS τ)) := by
    refine Tm_and (c_advQ h1) (Tm_mono (c_adv h1.1) (fun r z e => ?_))
    obtain ⟨z1, z2, kd, st, en, hi, lo, z3⟩ := z
    by_cases k0 : tkK T n (tkN T n q) = 0
    · rw [(z1 k0).1] at e
      exact absurd e (by decide)
    · refine ⟨(z2 k0).2.1, ?_⟩
      exact Ph_s (by rw [z3]; rfl)
  refine Tm_ox t (fun r w nz => ?_) (fun r w e0 => ?_)
  · obtain ⟨w, _⟩ := w
    rcases hx with ⟨e1, e2⟩ | ⟨e1, c⟩
    · rw [e2]
      exact Qthr hh (w.1 e1) w.2.2.1 w.2.2.2
    · exact absurd (w.2.1 e1).1 nz
  · obtain ⟨w, wc⟩ := w
    rcases hx with ⟨e1, e2⟩ | ⟨e1, c⟩
    · exact absurd (w.1 e1).1 (by rw [e0]; decide)
    · obtain ⟨c1, c2, c3⟩ := wc e0
      have k := cont r.2.1 r rfl c ⟨(w.2.1 e1).2, XK_t h2 w.2.2.2 h4 h5 h6, ⟨by omega, by omega⟩, h4, h5, h6⟩
      refine Tm_mono k (fun q z => ?_)
      rw [c1]
      exact QPo_s (n1 := 0) (n2 := 0) z
/-- what is refused is thrown -/
theorem lx_3 (h : QS T n b u al tb o q v mk p sz τ) : τ.1 3703 = nI q := h.1.2.2.2.2.2.2.1
/-- what was told, less of it -/
def mF {γ β : Type} (g : γ → β) : Fl γ → Fl β
  | Sum.inl y => Sum.inl y
  | Sum.inr r => Sum.inr (g r)
/-- the fault where something is to open -/
def oF (T : Nat → Int32) (n o q : Nat) : Nat × Nat := if o = 20 then (3, q) else (1, tkN T n q)
theorem oF_y (h : o = 20) : oF T n o q = (3, q) := if_pos h
theorem oF_n (h : ¬ o = 20) : oF T n o q = (1, tkN T n q) := if_neg h
theorem oF_a {β : Type} {w : Fl β} (c : o = 20) (h : w = Sum.inl (3, q)) : w = Sum.inl (oF T n o q) := by rw [oF_y c]; exact h
theorem oF_b {β : Type} {w : Fl β} (c : ¬ o = 20) (h : w = Sum.inl (1, tkN T n q)) : w = Sum.inl (oF T n o q) := by rw [oF_n c]; exact h
theorem wF_a {β : Type} {w : Fl β} (c : tkK T n q = kk) (h : w = Sum.inl (1, tkN T n q)) : w = Sum.inl (wF T n kk q) := by rw [wF_y c]; exact h
theorem wF_b {β : Type} {w : Fl β} (c : ¬ tkK T n q = kk) (h : w = Sum.inl (2, q)) : w = Sum.inl (wF T n kk q) := by rw [wF_n c]; exact h
theorem st_ref {cd pl : Nat} {f : Nat → RS → Option RS} (h : Sx T n b u al σ0 nc0 sz0 mk0 a1 a2 tb o q v mk p sz τ) (c1 : L.1 1 = nI cd) (c2 : L.1 2 = nI pl) (hc : 1 ≤ cd ∧ cd ≤ 8) : Tm (fun k => ox (f_X5_refuse k 0 L τ) (f k)) (QPo b u nc0 sz0 mk0 (Sum.inl (cd, pl) : Fl α) S σ0 a1 a2) := by
  have hh := h
  obtain ⟨h1, h2, h3, h4, h5, h6⟩ := h
  have t : Tm (fun k => f_X5_refuse k 0 L τ) (fun r => r = ((1, 0), uI (uI τ 4006 (L.1 1)) 4007 (L.1 2), (1, 6))) := by
    refine Tm_suc (fun k => by rw [f_X5_refuse]) ?_
    exact Tm_some rfl
  refine Tm_ox t (fun r w nz => ?_) (fun r w e0 => absurd e0 (by rw [w]; show ¬ 1 = 0; decide))
  have fc := fP_c b 19
  have qf := XK_f (σ' := uI (uI τ 4006 (L.1 1)) 4007 (L.1 2)) (mk' := mk) h1 (fun j hj => by rw [uI_o (by omega), uI_o (by omega)]) rfl (Nat.le_refl _)
  have fl : FltC (cd, pl) (uI (uI τ 4006 (L.1 1)) 4007 (L.1 2)) := Or.inl ⟨by rw [uI_o (by decide), uI_s]; exact c1, by rw [uI_s]; exact c2, hc⟩
  rw [w]
  have ph := Ph_s (σ := τ) (σ' := uI (uI τ 4006 (L.1 1)) 4007 (L.1 2)) rfl
  exact Qthr hh ⟨rfl, fl⟩ ⟨fun e => absurd e (by show ¬ 1 = 0; decide), fun _ => ⟨by show 1 + PhC (uI (uI τ 4006 (L.1 1)) 4007 (L.1 2)) ≤ _; omega, by show 6 + PhS (uI (uI τ 4006 (L.1 1)) 4007 (L.1 2)) ≤ _; omega⟩⟩ qf
theorem lx_k (h : QS T n b u al tb o q v mk p sz τ) (hk : tkV kk) : τ.1 3702 = cKd kk ↔ tkK T n q = kk := by
  obtain ⟨l1, l2, l3, l4, l5, l6, l7⟩ := h.1
  rw [l6]
  exact ck_e (tk_v l4 l5) hk
/-- fields of the parser's own are set -/
theorem Sx_f (h : Sx T n b u al σ0 nc0 sz0 mk0 a1 a2 tb o q v mk p sz τ) {o' mk' p' : Nat} (f1 : ∀ j, ¬ (j = 404 ∨ (4005 ≤ j ∧ j ≤ 4020 ∧ ¬ j = 4006 ∧ ¬ j = 4008 ∧ ¬ j = 4009 ∧ ¬ j = 4013) ∨ j = fP b 19) → τ'.1 j = τ.1 j) (f2 : τ'.2 = τ.2) (e5 : τ'.1 4005 = nI o') (ho : o' ≤ 20) (e11 : τ'.1 4011 = nI mk') (hm : mk' ≤ mk) (hm0 : mk0 ≤ mk') (e19 : τ'.1 (fP b 19) = nI p') : Sx T n b u al σ0 nc0 sz0 mk0 a1 a2 tb o' q v mk' p' sz τ' := by
  obtain ⟨h1, h2, h3, h4, h5, h6⟩ := h
  obtain ⟨q1, q2⟩ := QS_f h1 f1 f2 e5 ho e11 hm e19
  have ph := Ph_s (σ := τ) (σ' := τ') (by rw [f2])
  exact ⟨q1, XK_t h2 q2 h4 h5 hm0, ⟨by omega, by omega⟩, h4, h5, hm0⟩
theorem Sx_o (h : Sx T n b u al σ0 nc0 sz0 mk0 a1 a2 tb o q v mk p sz τ) {o' : Nat} (ho : o' ≤ 20) : Sx T n b u al σ0 nc0 sz0 mk0 a1 a2 tb o' q v mk p sz (uI τ 4005 (nI o')) := by
  have fc := fP_c b 19
  exact Sx_f h (fun j hj => uI_o (by omega)) rfl uI_s ho (by rw [uI_o (by decide)]; exact h.1.2.2.1.1) (Nat.le_refl _) h.2.2.2.2.2 (by rw [uI_o (by omega)]; exact h.1.2.2.2.2.2.2.2)
theorem c_expectQ (h : QS T n b u al tb o q v mk p sz τ) (hk : tkV kk) (h1 : L.1 1 = cKd kk) {x : Fl Nat} (hx : (¬ (tkK T n q = kk ∧ ¬ tkK T n (tkN T n q) = 0) ∧ x = Sum.inl (wF T n kk q)) ∨ ((tkK T n q = kk ∧ ¬ tkK T n (tkN T n q) = 0) ∧ x = Sum.inr (tkN T n q))) : Tm (fun k => f_X5_expect k 0 L τ) (QPo b u tb.length sz mk x (fun q' _ τ' => QS T n b u al tb o q' v mk p sz τ') τ 0 0) := by
  have s0 := Sx_0 h
  refine Tm_suc (fun k => by rw [f_X5_expect]) ?_
  rw [h1]
  refine Tm_ite (fun e => ?_) (fun e => ?_)
  · rw [lx_k h hk] at e
    refine Tm_suc (fun k => by rw [f_X5_expect]) ?_
    refine st_adv (C := x = Sum.inr (tkN T n q)) s0 ?_ (fun τ' r er c s => ?_)
    · rcases hx with ⟨w1, w2⟩ | ⟨w1, w2⟩
      · left
        exact ⟨Classical.byContradiction (fun z => w1 ⟨e, z⟩), w2.trans (by rw [wF_y e])⟩
      · exact Or.inr ⟨w1.2, w2⟩
    · rw [c, er]
      exact Tm_some (Qfin s s.1)
  · rw [lx_k h hk] at e
    rcases hx with ⟨w1, w2⟩ | ⟨w1, w2⟩
    · rw [w2, wF_n e]; exact st_ref s0 rfl (lx_3 h) (by decide)
    · exact absurd w1.1 e
theorem c_wantQ (h : QS T n b u al tb o q v mk p sz τ) (hk : tkV kk) (h1 : L.1 1 = cKd kk) {x : Fl Nat} (hx : (¬ tkK T n q = kk ∧ x = Sum.inl (2, q)) ∨ (tkK T n q = kk ∧ x = Sum.inr q)) : Tm (fun k => f_X5_want k 0 L τ) (QPo b u tb.length sz mk x (fun q' _ τ' => τ' = τ) τ 0 0) := by
  have s0 := Sx_0 h
  refine Tm_suc (fun k => by rw [f_X5_want]) ?_
  rw [h1]
  refine Tm_ite (fun e => ?_) (fun e => ?_)
  · rw [lx_k h hk] at e
    refine Tm_suc (fun k => by rw [f_X5_want]) ?_
    rcases hx with ⟨w1, w2⟩ | ⟨w1, w2⟩
    · exact absurd e w1
    · rw [w2]; exact Tm_some (Qfin s0 rfl)
  · rw [lx_k h hk] at e
    rcases hx with ⟨w1, w2⟩ | ⟨w1, w2⟩
    · rw [w2]; exact st_ref s0 rfl (lx_3 h) (by decide)
    · exact absurd w1 e
theorem c_opensQ (h : QS T n b u al tb o q v mk p sz τ) {x : Fl Nat} (hx : (¬ (¬ o = 20 ∧ ¬ tkK T n (tkN T n q) = 0) ∧ x = Sum.inl (oF T n o q)) ∨ ((¬ o = 20 ∧ ¬ tkK T n (tkN T n q) = 0) ∧ x = Sum.inr (tkN T n q))) : Tm (fun k => f_X5_opens k 0 L τ) (QPo b u tb.length sz mk x (fun q' _ τ' => QS T n b u al tb (o + 1) q' v mk p sz τ') τ 0 0) := by
  have s0 := Sx_0 h
  have e5 := h.2.2.2.2.2.1.1
  have o20 := h.2.2.2.2.2.1.2
  refine Tm_suc (fun k => by rw [f_X5_opens]) ?_
  rw [e5]
  refine Tm_ite (fun e => ?_) (fun e => ?_)
  · have e' : nI o < nI 20 := e
    rw [u_ltn (by rw [u_n (by omega)]; omega) (by decide), u_n (by omega), u_n (by decide)] at e'
    refine Tm_suc (fun k => by rw [f_X5_opens]) ?_
    rw [e5, n_add1]
    refine st_adv (C := x = Sum.inr (tkN T n q)) (Sx_o s0 (o' := o + 1) (by omega)) ?_ (fun τ' r er c s => ?_)
    · rcases hx with ⟨w1, w2⟩ | ⟨w1, w2⟩
      · left
        exact ⟨Classical.byContradiction (fun z => w1 ⟨by omega, z⟩), w2.trans (by rw [oF_n (show ¬ o = 20 by omega)])⟩
      · exact Or.inr ⟨w1.2, w2⟩
    · rw [c, er]
      exact Tm_some (Qfin s s.1)
  · have e' : ¬ nI o < nI 20 := e
    rw [u_ltn (by rw [u_n (by omega)]; omega) (by decide), u_n (by omega), u_n (by decide)] at e'
    rcases hx with ⟨w1, w2⟩ | ⟨w1, w2⟩
    · rw [w2, oF_y (show o = 20 by omega)]; exact st_ref s0 rfl (lx_3 h) (by decide)
    · exact absurd (show o = 20 by omega) w1.1
theorem c_closesQ (h : QS T n b u al tb (o + 1) q v mk p sz τ) (hk : tkV kk) (h1 : L.1 1 = cKd kk) {x : Fl Nat} (hx : (¬ (tkK T n q = kk ∧ ¬ tkK T n (tkN T n q) = 0) ∧ x = Sum.inl (wF T n kk q)) ∨ ((tkK T n q = kk ∧ ¬ tkK T n (tkN T n q) = 0) ∧ x = Sum.inr (tkN T n q))) : Tm (fun k => f_X5_closes k 0 L τ) (QPo b u tb.length sz mk x (fun q' _ τ' => QS T n b u al tb o q' v mk p sz τ') τ 0 0) := by
  have s0 := Sx_0 h
  have e5 := h.2.2.2.2.2.1.1
  have o20 := h.2.2.2.2.2.1.2
  refine Tm_suc (fun k => by rw [f_X5_closes]) ?_
  rw [h1]
  refine Tm_ite (fun e => ?_) (fun e => ?_)
  · rw [lx_k h hk] at e
    refine Tm_suc (fun k => by rw [f_X5_closes]) ?_
    rw [e5, sub1_n (by omega)]
    refine st_adv (C := x = Sum.inr (tkN T n q)) (Sx_o s0 (o' := o) (by omega)) ?_ (fun τ' r er c s => ?_)
    · rcases hx with ⟨w1, w2⟩ | ⟨w1, w2⟩
      · left
        exact ⟨Classical.byContradiction (fun z => w1 ⟨e, z⟩), w2.trans (by rw [wF_y e])⟩
      · exact Or.inr ⟨w1.2, w2⟩
    · rw [c, er]
      exact Tm_some (Qfin s s.1)
  · rw [lx_k h hk] at e
    rcases hx with ⟨w1, w2⟩ | ⟨w1, w2⟩
    · rw [w2, wF_n e]; exact st_ref s0 rfl (lx_3 h) (by decide)
    · exact absurd w1.1 e
end CVE
end JnS446
