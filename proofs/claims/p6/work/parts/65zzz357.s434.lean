/-! The class: instructions without jumps, typed. -/
section CUS
variable {c c' c1 c2 : Ct} {O O' H H' : Nat → Prop} {u nu nu' pc ln R R' p d rk k op w n m m' q : Nat} {r pre ms ms' : List Nat} {x v : Int32} {Vm : Nat → Prop} {cs ins a b : List Int32} {gl : Nat × (Nat → Nat → Prop)}
theorem it_S (a : CtG O u nu c c') (cn : CnC O u p gl Vm nu c w ms) (hp : ∀ e, e ∈ pre → e < bsl) (hD : tcD c q = some (u, d, sh pre w ms, R')) (no : ¬ O q) (hR : R' ≤ RK) : NxS c' q u d (sh pre w ms) := nxS_of a cn.1 hD no (Rsh_r _ _) (by rw [sh_bt pre _ hp]; exact cn.2.2.1) (by rw [sh_bt pre _ hp]; exact cn.2.2.1) (by omega)
theorem it_N (a : CtG O u nu c c') (cn : CnC O u p gl Vm nu c w ms) (hp : ∀ e, e ∈ pre → e < bsl) (hD : tcD c q = some (u, d, sh pre w ms, R')) (no : ¬ O q) (hR : R' < k) : Nx c' q u d (sh pre w ms) k := nx_of a cn.1 hD no (Rsh_r _ _) (by rw [sh_bt pre _ hp]; exact cn.2.2.1) (by rw [sh_bt pre _ hp]; exact cn.2.2.1) hR
/-- of one int -/
theorem It_1 (ho : op < 256) (hx : Sm3 x) (ok : ∀ (O : Nat → Prop) (nu R : Nat) (c c' : Ct) (pc d : Nat) (pre : List Nat) (w : Nat) (ms : List Nat), pc + 1 ≤ tcN c → ¬ O (pc + 1) → tcD c (pc + 1) = some (u, d + m', sh pre w ms, R - 1) → (∀ e, e ∈ pre → e < bsl) → CnC O u p gl Vm nu c w ms → 1001 ≤ R → R ≤ RK → d + m ≤ 100000 ∧ d + m' ≤ 100000 → CtG O u nu c c' → OKI c' pc u (d + m) (sh pre w ms) R op x) : Itc u p gl Vm m m' [em op x] := by
  intro O nu R c pc d pre w ms hc hN no no2 hD hD2 hp cn hR1 hR2 hd
  have e0 : tcC c pc = em op x := hc 0 (by show 0 < 1; decide)
  have hN' : pc + 1 ≤ tcN c := hN
  have hR1' : 1000 + 1 ≤ R := hR1
  exact OKq_of (x := x) hD no cn.2.1 hN' (by omega) ho (Nat.le_refl 1) (by rw [e0]; exact em_lo ho) (by rw [e0]; exact em_hi ho hx) (fun c' a _ _ => ok O nu R c c' pc d pre w ms hN' no2 hD2 hp cn (by omega) hR2 hd a)

theorem It_bin (h : 128 ≤ op ∧ op < 144) : Itc u p gl Vm 2 1 [em op 0] := It_1 (by omega) Sm3_0 (fun O nu R c c' pc d pre w ms hN no2 hD2 hp cn hR1 hR2 hd a => OKI_b h ⟨d, rfl, (it_S a cn hp hD2 no2 (by omega))⟩)
theorem It_un (h : 160 ≤ op ∧ op < 176) : Itc u p gl Vm 1 1 [em op 0] := It_1 (by omega) Sm3_0 (fun O nu R c c' pc d pre w ms hN no2 hD2 hp cn hR1 hR2 hd a => OKI_u h ⟨by omega, (it_S a cn hp hD2 no2 (by omega))⟩)
theorem It_tr  : Itc u p gl Vm 1 1 [em 8 0] := It_1 (by decide) Sm3_0 (fun O nu R c c' pc d pre w ms hN no2 hD2 hp cn hR1 hR2 hd a => OKI_1 (by decide) ⟨fun z => absurd z (by decide), fun z => absurd z (by decide), fun z => absurd z (by decide), fun z => absurd z (by decide), fun _ => ⟨by omega, (it_S a cn hp hD2 no2 (by omega))⟩⟩)
theorem It_not  : Itc u p gl Vm 1 1 [em 9 0] := It_1 (by decide) Sm3_0 (fun O nu R c c' pc d pre w ms hN no2 hD2 hp cn hR1 hR2 hd a => OKI_1 (by decide) ⟨fun z => absurd z (by decide), fun z => absurd z (by decide), fun z => absurd z (by decide), fun z => absurd z (by decide), fun _ => ⟨by omega, (it_S a cn hp hD2 no2 (by omega))⟩⟩)
theorem It_ld (hx : uN x < 500000) (hv : Vm (500000 + uN x)) : Itc u p gl Vm 0 1 [em 35 x] := It_1 (by decide) (Or.inl (by omega)) (fun O nu R c c' pc d pre w ms hN no2 hD2 hp cn hR1 hR2 hd a => OKI_2 (by decide) ⟨fun z => absurd z (by decide), fun z => absurd z (by decide), fun z => absurd z (by decide), fun _ => ⟨⟨hx, sh_has pre hp (cn.2.2.2.2.2.2.1 _ hv)⟩, (it_N a cn hp hD2 no2 (by omega))⟩, fun z => absurd z (by decide), fun z => absurd z (by decide), fun z => absurd z (by decide), fun z => absurd z (by decide), fun z => absurd z (by decide), fun z => absurd z (by decide), fun z => absurd z (by decide)⟩)
theorem It_lg (hx : uN x < gl.1) (hg : gl.1 ≤ 1000) : Itc u p gl Vm 0 1 [em 36 x] := It_1 (by decide) (Or.inl (by omega)) (fun O nu R c c' pc d pre w ms hN no2 hD2 hp cn hR1 hR2 hd a => OKI_2 (by decide) ⟨fun z => absurd z (by decide), fun z => absurd z (by decide), fun z => absurd z (by decide), fun z => absurd z (by decide), fun _ => ⟨Nat.lt_of_lt_of_le hx (Nat.le_trans cn.2.2.2.1.1 a.2.2.2.1.1), (it_N a cn hp hD2 no2 (by omega))⟩, fun z => absurd z (by decide), fun z => absurd z (by decide), fun z => absurd z (by decide), fun z => absurd z (by decide), fun z => absurd z (by decide), fun z => absurd z (by decide)⟩)
theorem It_lp (hx : uN x < 180) (hv : Vm (bsl + 500000 + uN x)) : Itc u p gl Vm 0 1 [em 41 x] := It_1 (by decide) (Or.inl (by omega)) (fun O nu R c c' pc d pre w ms hN no2 hD2 hp cn hR1 hR2 hd a => OKI_2 (by decide) ⟨fun z => absurd z (by decide), fun z => absurd z (by decide), fun z => absurd z (by decide), fun z => absurd z (by decide), fun z => absurd z (by decide), fun z => absurd z (by decide), fun z => absurd z (by decide), fun z => absurd z (by decide), fun _ => ⟨⟨hx, sh_has pre hp (cn.2.2.2.2.2.2.1 _ hv)⟩, (it_N a cn hp hD2 no2 (by omega))⟩, fun z => absurd z (by decide), fun z => absurd z (by decide)⟩)
theorem It_gi  : Itc u p gl Vm 1 1 [em 40 0] := It_1 (by decide) Sm3_0 (fun O nu R c c' pc d pre w ms hN no2 hD2 hp cn hR1 hR2 hd a => OKI_2 (by decide) ⟨fun z => absurd z (by decide), fun z => absurd z (by decide), fun z => absurd z (by decide), fun z => absurd z (by decide), fun z => absurd z (by decide), fun z => absurd z (by decide), fun z => absurd z (by decide), fun z => absurd z (by decide), fun z => absurd z (by decide), fun z => absurd z (by decide), fun _ => ⟨by omega, (it_S a cn hp hD2 no2 (by omega))⟩⟩)
theorem It_ms (hx : uN x = n) (hn : n < 8388608) : Itc u p gl Vm n 1 [em 48 x] := It_1 (by decide) (Or.inl (by omega)) (fun O nu R c c' pc d pre w ms hN no2 hD2 hp cn hR1 hR2 hd a => OKI_3 (by decide) ⟨fun _ => ⟨d, by rw [hx], by rw [tF_of a cn.1, sh_bt pre _ hp]; exact cn.2.2.1, (it_S a cn hp hD2 no2 (by omega))⟩, fun z => absurd z (by decide), fun z => absurd z (by decide), fun z => absurd z (by decide), fun z => absurd z (by decide)⟩)
theorem It_mt (hx : uN x = n) (hn : n < 8388608) : Itc u p gl Vm n 1 [em 49 x] := It_1 (by decide) (Or.inl (by omega)) (fun O nu R c c' pc d pre w ms hN no2 hD2 hp cn hR1 hR2 hd a => OKI_3 (by decide) ⟨fun _ => ⟨d, by rw [hx], by rw [tF_of a cn.1, sh_bt pre _ hp]; exact cn.2.2.1, (it_S a cn hp hD2 no2 (by omega))⟩, fun z => absurd z (by decide), fun z => absurd z (by decide), fun z => absurd z (by decide), fun z => absurd z (by decide)⟩)
theorem It_ss  : Itc u p gl Vm 2 1 [em 50 0] := It_1 (by decide) Sm3_0 (fun O nu R c c' pc d pre w ms hN no2 hD2 hp cn hR1 hR2 hd a => OKI_3 (by decide) ⟨fun z => absurd z (by decide), fun _ => ⟨d, rfl, (it_S a cn hp hD2 no2 (by omega))⟩, fun z => absurd z (by decide), fun z => absurd z (by decide), fun z => absurd z (by decide)⟩)
theorem It_st  : Itc u p gl Vm 2 1 [em 51 0] := It_1 (by decide) Sm3_0 (fun O nu R c c' pc d pre w ms hN no2 hD2 hp cn hR1 hR2 hd a => OKI_3 (by decide) ⟨fun z => absurd z (by decide), fun _ => ⟨d, rfl, (it_S a cn hp hD2 no2 (by omega))⟩, fun z => absurd z (by decide), fun z => absurd z (by decide), fun z => absurd z (by decide)⟩)
theorem It_ps  : Itc u p gl Vm 3 1 [em 52 0] := It_1 (by decide) Sm3_0 (fun O nu R c c' pc d pre w ms hN no2 hD2 hp cn hR1 hR2 hd a => OKI_3 (by decide) ⟨fun z => absurd z (by decide), fun z => absurd z (by decide), fun _ => ⟨d, rfl, (it_S a cn hp hD2 no2 (by omega))⟩, fun z => absurd z (by decide), fun z => absurd z (by decide)⟩)
theorem It_pt  : Itc u p gl Vm 3 1 [em 53 0] := It_1 (by decide) Sm3_0 (fun O nu R c c' pc d pre w ms hN no2 hD2 hp cn hR1 hR2 hd a => OKI_3 (by decide) ⟨fun z => absurd z (by decide), fun z => absurd z (by decide), fun _ => ⟨d, rfl, (it_S a cn hp hD2 no2 (by omega))⟩, fun z => absurd z (by decide), fun z => absurd z (by decide)⟩)
theorem It_na  : Itc u p gl Vm 0 1 [em 54 0] := It_1 (by decide) Sm3_0 (fun O nu R c c' pc d pre w ms hN no2 hD2 hp cn hR1 hR2 hd a => OKI_3 (by decide) ⟨fun z => absurd z (by decide), fun z => absurd z (by decide), fun z => absurd z (by decide), fun _ => (it_S a cn hp hD2 no2 (by omega)), fun z => absurd z (by decide)⟩)
theorem It_ra  : Itc u p gl Vm 1 1 [em 55 0] := It_1 (by decide) Sm3_0 (fun O nu R c c' pc d pre w ms hN no2 hD2 hp cn hR1 hR2 hd a => OKI_3 (by decide) ⟨fun z => absurd z (by decide), fun z => absurd z (by decide), fun z => absurd z (by decide), fun z => absurd z (by decide), fun _ => ⟨by omega, (it_S a cn hp hD2 no2 (by omega))⟩⟩)
theorem It_p1  : Itc u p gl Vm 2 1 [em 96 0] := It_1 (by decide) Sm3_0 (fun O nu R c c' pc d pre w ms hN no2 hD2 hp cn hR1 hR2 hd a => OKI_6 (by decide) ⟨fun _ => ⟨d, rfl, (it_S a cn hp hD2 no2 (by omega))⟩, fun z => absurd z (by decide), fun z => absurd z (by decide), fun z => absurd z (by decide), fun z => absurd z (by decide)⟩)
theorem It_pa  : Itc u p gl Vm 2 1 [em 98 0] := It_1 (by decide) Sm3_0 (fun O nu R c c' pc d pre w ms hN no2 hD2 hp cn hR1 hR2 hd a => OKI_6 (by decide) ⟨fun _ => ⟨d, rfl, (it_S a cn hp hD2 no2 (by omega))⟩, fun z => absurd z (by decide), fun z => absurd z (by decide), fun z => absurd z (by decide), fun z => absurd z (by decide)⟩)
theorem It_pr  : Itc u p gl Vm 3 1 [em 97 0] := It_1 (by decide) Sm3_0 (fun O nu R c c' pc d pre w ms hN no2 hD2 hp cn hR1 hR2 hd a => OKI_6 (by decide) ⟨fun z => absurd z (by decide), fun _ => ⟨d, rfl, (it_S a cn hp hD2 no2 (by omega))⟩, fun z => absurd z (by decide), fun z => absurd z (by decide), fun z => absurd z (by decide)⟩)
/-- of two ints -/
theorem It_2 (ho : op < 256) (hx : Sm3 x) (ok : ∀ (O : Nat → Prop) (nu R : Nat) (c c' : Ct) (pc d : Nat) (pre : List Nat) (w : Nat) (ms : List Nat), pc + 2 ≤ tcN c → tcC c' (pc + 1) = v → ¬ O (pc + 2) → tcD c (pc + 2) = some (u, d + m', sh pre w ms, R - 2) → (∀ e, e ∈ pre → e < bsl) → CnC O u p gl Vm nu c w ms → 1002 ≤ R → R ≤ RK → d + m ≤ 100000 ∧ d + m' ≤ 100000 → CtG O u nu c c' → OKI c' pc u (d + m) (sh pre w ms) R op x) : Itc u p gl Vm m m' [em op x, v] := by
  intro O nu R c pc d pre w ms hc hN no no2 hD hD2 hp cn hR1 hR2 hd
  have e0 : tcC c pc = em op x := hc 0 (by show 0 < 2; decide)
  have e1 : tcC c (pc + 1) = v := hc 1 (by show 1 < 2; decide)
  have hN' : pc + 2 ≤ tcN c := hN
  have hR1' : 1000 + 2 ≤ R := hR1
  exact OKq_of (x := x) hD no cn.2.1 (by omega) (by omega) ho (by show 1 ≤ 2; decide) (by rw [e0]; exact em_lo ho) (by rw [e0]; exact em_hi ho hx) (fun c' a hc' _ => ok O nu R c c' pc d pre w ms hN' ((hc' (pc + 1) (by omega) (by show pc + 1 < pc + 2; omega)).trans e1) no2 hD2 hp cn (by omega) hR2 hd a)
theorem It_pu (hv : LitG v) : Itc u p gl Vm 0 1 [em 32 0, v] := It_2 (by decide) Sm3_0 (fun O nu R c c' pc d pre w ms hN ev no2 hD2 hp cn hR1 hR2 hd a => OKI_2 (by decide) ⟨fun _ => ⟨by have := a.1; omega, by rw [ev]; exact hv, (it_N a cn hp hD2 no2 (by omega))⟩, fun z => absurd z (by decide), fun z => absurd z (by decide), fun z => absurd z (by decide), fun z => absurd z (by decide), fun z => absurd z (by decide), fun z => absurd z (by decide), fun z => absurd z (by decide), fun z => absurd z (by decide), fun z => absurd z (by decide), fun z => absurd z (by decide)⟩)
theorem It_li (hv : LitG v) : Itc u p gl Vm 0 1 [em 33 0, v] := It_2 (by decide) Sm3_0 (fun O nu R c c' pc d pre w ms hN ev no2 hD2 hp cn hR1 hR2 hd a => OKI_2 (by decide) ⟨fun z => absurd z (by decide), fun _ => ⟨by have := a.1; omega, by rw [ev]; exact hv, (it_S a cn hp hD2 no2 (by omega))⟩, fun z => absurd z (by decide), fun z => absurd z (by decide), fun z => absurd z (by decide), fun z => absurd z (by decide), fun z => absurd z (by decide), fun z => absurd z (by decide), fun z => absurd z (by decide), fun z => absurd z (by decide), fun z => absurd z (by decide)⟩)
/-- a whole or a string as it will lie in the heap -/
theorem It_lc {hd0 : Int32} {bd : List Int32} (hn : n = 1 + bd.length) (hn2 : n < 8388608) (hx : uN x = n) (h1 : uN hd0 < 2147483648) (h2 : n = 1 + hdW (uN hd0)) (h3 : hdK (uN hd0) = 2 ∨ hdK (uN hd0) = 4) (h4 : hdT (uN hd0) ≤ 30 ∧ 1 ≤ hdS (uN hd0)) (h5 : hdK (uN hd0) = 2 → 1 ≤ hdL (uN hd0) ∧ hdL (uN hd0) ≤ 32) : Itc u p gl Vm 0 1 (em 34 x :: hd0 :: bd) := by
  intro O nu R c pc d pre w ms hc hN no no2 hD hD2 hp cn hR1 hR2 hd
  have el : (em 34 x :: hd0 :: bd).length = 1 + n := by show bd.length + 1 + 1 = _; omega
  rw [el] at hc hN no2 hD2 hR1 ⊢
  have e0 : tcC c pc = em 34 x := hc 0 (by omega)
  have e1 : tcC c (pc + 1) = hd0 := hc 1 (by omega)
  have hx' : Sm3 x := Or.inl (by omega)
  refine OKq_of (op := 34) (x := x) hD no cn.2.1 (by omega) (by omega) (by decide) (by omega) (by rw [e0]; exact em_lo (by decide)) (by rw [e0]; exact em_hi (by decide) hx') (fun c' a hc' _ => OKI_2 (by decide) ⟨fun z => absurd z (by decide), fun z => absurd z (by decide), fun _ => ⟨?_, ?_, ?_⟩, fun z => absurd z (by decide), fun z => absurd z (by decide), fun z => absurd z (by decide), fun z => absurd z (by decide), fun z => absurd z (by decide), fun z => absurd z (by decide), fun z => absurd z (by decide), fun z => absurd z (by decide)⟩)
  · have := a.1; omega
  · rw [hx]
    unfold LitC
    rw [hc' (pc + 1) (by omega) (by omega), e1]
    exact ⟨h1, h2, h3, h4, h5⟩
  · rw [hx, Nat.add_assoc]
    exact it_S a cn hp hD2 no2 (by omega)
/-- values that are gathered into one, one by one: FOLD, FOLD_ON -/
theorem Sg2_fo {y : Int32} : Sg2 u p gl Vm 1 1 [em 112 0, em 113 y] := by
  have el : ∀ i j : Int32, [i, j].length = 2 := fun _ _ => rfl
  intro O H nu R c d pre w ms C t no f1 hp cn hR1 hR2 hd hN hC1 hC2
  rw [el] at hR1 hd hN hC2 ⊢
  have noO : ∀ q, tcN c < q → ¬ O q := fun q hq o => by
    obtain ⟨y, ey⟩ := (t.2.1 _ o).2
    rw [t.2.2.2.1 _ hq] at ey
    cases ey
  have cA : C (tcN c) = em 112 0 := hC2 0 (by decide)
  have cB : C (tcN c + 1) = em 113 y := hC2 1 (by decide)
  let D2 : Nat → Option (Nat × Nat × List Nat × Nat) := fun q => if q = tcN c + 1 then some (u + 100, 0, (750000 + (d + 1 + 1)) :: sh pre w ms, R) else tcD c q
  let D3 : Nat → Option (Nat × Nat × List Nat × Nat) := fun q => if q = tcN c + 1 + 1 then some (u, d + 1, sh pre w ms, R - 2) else D2 q
  have nb : ∀ q, tcN c < q → tcD c q = none := fun q hq => t.2.2.2.1 q hq
  have dd2 : ∀ q y, tcD c q = some y → D3 q = some y := fun q y e => by
    have n1 : ¬ q = tcN c + 1 := fun z => by rw [z, nb _ (by omega)] at e; cases e
    have n2 : ¬ q = tcN c + 1 + 1 := fun z => by rw [z, nb _ (by omega)] at e; cases e
    show (if q = tcN c + 1 + 1 then _ else if q = tcN c + 1 then _ else tcD c q) = _
    rw [if_neg n2, if_neg n1]; exact e
  have d3a : D3 (tcN c + 1) = some (u + 100, 0, (750000 + (d + 1 + 1)) :: sh pre w ms, R) := by
    show (if tcN c + 1 = tcN c + 1 + 1 then _ else if tcN c + 1 = tcN c + 1 then _ else tcD c (tcN c + 1)) = _
    rw [if_neg (by omega), if_pos rfl]
  have d3b : D3 (tcN c + 1 + 1) = some (u, d + 1, sh pre w ms, R - 2) := if_pos rfl
  have cn3 : CnC O u p gl Vm nu (mkc c C (tcN c + 1 + 1) D3) w ms := CnC_k cn dd2
  have u42 := cn.2.1
  have hb : tcF c u ≤ bt (d + 1) (sh pre w ms) := by rw [sh_bt pre _ hp]; exact cn.2.2.1
  have t3 : TI O H nu (R - 2) (mkc c C (tcN c + 1 + 1) D3) := by
    have t2 : TI O (fun h => H h ∨ h = tcN c) nu (R) (mkc c C (tcN c + 1) D2) := TI_em (ln := 1) (y := some (u + 100, 0, (750000 + (d + 1 + 1)) :: sh pre w ms, R)) (Hn := True) (On := False) t (Nat.le_refl _) (by show tcN c + 1 ≤ _; omega) hC1 rfl ⟨⟨rfl, rfl⟩, rfl, rfl⟩ (fun q => rfl) (fun q => ⟨Or.inl, fun z => z.elim id (fun w => w.2.elim)⟩) (fun z => z.elim) (fun q => ⟨fun z => z.elim Or.inl (fun e => Or.inr ⟨e, trivial⟩), fun z => z.elim Or.inl (fun e => Or.inr e.1)⟩) (fun _ => trivial) (fun z => absurd trivial z) (Nat.le_refl _)
    have t3 : TI O (fun h => H h ∨ h = tcN c) nu (R - 2) (mkc c C (tcN c + 1 + 1) D3) := TI_em (ln := 1) (y := some (u, d + 1, sh pre w ms, R - 2)) (Hn := False) (On := False) t2 (Nat.le_refl _) (by show tcN c + 1 + 1 ≤ _; omega) (fun _ _ => rfl) rfl ⟨⟨rfl, rfl⟩, rfl, rfl⟩ (fun q => rfl) (fun q => ⟨Or.inl, fun z => z.elim id (fun w => w.2.elim)⟩) (fun z => z.elim) (fun q => ⟨Or.inl, fun z => z.elim id (fun w => w.2.elim)⟩) (fun o => noO _ (by show tcN c < tcN c + 1; omega) o) (fun _ y ey => by
      have ey' : D2 (tcN c + 1) = some y := ey
      have ez : D2 (tcN c + 1) = some (u + 100, 0, (750000 + (d + 1 + 1)) :: sh pre w ms, R) := if_pos rfl
      rw [ez] at ey'
      cases ey'
      show OKq O ((u + 100) % 100) nu (mkc c C (tcN c + 1 + 1) D3) (tcN c + 1) 1 (R)
      rw [Nat.add_mod_right, Nat.mod_eq_of_lt (by omega)]
      intro c' a hc ro u' d' r' rk' e
      have e0 := (a.2.2.2.2 (tcN c + 1) _ d3a).1 (noO _ (by omega))
      rw [e0] at e
      cases e
      have n1 : tcN c + 1 + 1 ≤ tcN c' := a.1
      have ec : tcC c' (tcN c + 1) = em 113 _ := (hc (tcN c + 1) (Nat.le_refl _) (by omega)).trans cB
      refine ⟨n1, by omega, 113, by decide, by rw [ec]; exact em_lo (by decide), fun z => absurd z (by omega), fun _ => ⟨rfl, by omega, fun d' r0 er => ?_⟩⟩
      have er1 := (List.cons.inj er).1
      have er2 := (List.cons.inj er).2
      rw [← er2, show d' = d from by omega, Nat.add_sub_cancel]
      exact it_S a cn3 hp d3b (noO _ (by omega)) (by omega)) (by omega)
    refine TI_fi (h := tcN c) (ln := 1) (x := (u, d + 1, sh pre w ms, R)) t3 (Nat.le_refl _) (Or.inr rfl) no (by show tcN c + 1 ≤ tcN c + 1 + 1; omega) (fun _ _ => rfl) rfl (dd2 _ _ f1) (fun i y h1 h2 => absurd h1 (by omega)) (fun h' hh => ?_) (fun q => ?_) ?_
    · rcases hh with z | z
      · have := t.2.2.1 h' z
        left; exact Nat.le_of_lt this
      · left; omega
    · refine ⟨fun z => ⟨Or.inl z, fun e => ?_⟩, fun z => z.1.elim id (fun e => absurd e z.2)⟩
      have w1 : q < tcN c := t.2.2.1 q z
      omega
    · have z := OKq_of (O := O) (nu := nu) (c := mkc c C (tcN c + 1 + 1) D3) (pc := tcN c) (ln := 1) (R := R) (x := 0) (op := 112) (dd2 _ _ f1) no u42 (by show tcN c + 1 ≤ tcN c + 1 + 1; omega) (by omega) (by decide) (Nat.le_refl _) (by show C (tcN c) &&& 255 = _; rw [cA]; exact em_lo (by decide)) (by show C (tcN c) >>> ((8 : Int32) &&& 31) = _; rw [cA]; exact em_hi (by decide) Sm3_0) (fun c' a hc ro => OKI_f (by decide) (by
        obtain ⟨e0, s0, es⟩ := sh_ne (w := w) (ms := ms) pre
        exact ⟨rfl, by omega, e0, s0, R, es, by omega, (a.2.2.2.2 _ _ d3a).1 (noO _ (by omega)), ⟨by omega, Nat.le_refl _⟩, it_S a cn3 hp d3b (noO _ (by omega)) (by omega)⟩))
      intro c' a hc ro
      exact z c' a hc (fun p x o e => Nat.lt_of_lt_of_le (ro p x o e) (by omega))
  refine ⟨D3, t3, fun q hq => ?_, d3b⟩
  show (if q = tcN c + 1 + 1 then _ else if q = tcN c + 1 then _ else tcD c q) = _
  rw [if_neg (by omega), if_neg (by omega)]
end CUS
