/-! The class: whiles, typed. -/
section CWK
variable {c c' c1 c2 : Ct} {O O' H H' : Nat → Prop} {u nu nu' pc ln R R' re p d d' rk k op w n m m' q t x y x1 x2 g s N N0 X h0 Bd Bd' ns na nb pl ρ ρt : Nat} {r r' pre ms ms' mse : List Nat} {x0 v : Int32} {Vm : Nat → Prop} {Pc : Nat → Nat → Prop} {cs ins a b tl o co bo : List Int32} {gl : Nat × (Nat → Nat → Prop)} {C : Nat → Int32} {qs qa qb : List Nat} {lo : Option Nat}
theorem Stm_wh (hc : Sgm u 0 gl Vm 1 co) (hb : Stm u gl Pc Vm w (N + (co.length + 2)) (some N) Bd' nb qb bo) (hB : Bd' + 1 ≤ Bd) (hp : pl < 8388608) (l : cs.length = co.length + bo.length + 3) (k0 : cs.getD 0 0 = em 0 (nI pl)) (k1 : ∀ i, i < co.length → cs.getD (1 + i) 0 = co.getD i 0) (k2 : cs.getD (co.length + 1) 0 = em 4 (nI (bo.length + 2))) (k3 : ∀ i, i < bo.length → ¬ i ∈ qb → cs.getD (co.length + 2 + i) 0 = bo.getD i 0) (k4 : ∀ h, h ∈ qb → cs.getD (co.length + 2 + h) 0 = em 3 (nI (bo.length + 1 - h))) (k5 : cs.getD (co.length + 2 + bo.length) 0 = em 3 (nI 0 - nI (co.length + bo.length + 2))) : Stm u gl Pc Vm w N lo Bd (nb + 1) [] cs := by
  obtain ⟨hc1, hc2⟩ := hc
  obtain ⟨⟨p1, p2⟩, hb⟩ := hb
  refine ⟨⟨fun h z => absurd z List.not_mem_nil, List.Pairwise.nil⟩, fun O H nu R ρ c ms C ti eN no hD cn lp hR1 hR2 h2 hB' hN hC1 hC2 => ?_⟩
  subst eN
  rw [l] at hR1 hN hC2 ⊢
  have rk40 : RK = 40000 := rfl
  have hu : (u ≤ nu ∨ u = 41) ∧ u < 42 := ⟨cn.1.1, cn.1.2.1⟩
  have hz : ∀ q, H q → q < tcN c := ti.2.2.1
  have cc : ∀ i, i < co.length + bo.length + 3 → C (tcN c + i) = cs.getD i 0 := fun i hi => hC2 i hi List.not_mem_nil
  -- BEGIN
  have t1 := TI_bg (k := R) ti no hD cn hR2 (by omega) (by omega) (by omega) hC1 ⟨nI pl, Sm3_n hp, (cc 0 (by omega)).trans k0⟩
  have dU1 : ∀ q y', tcD c q = some y' → up1 c 1 (u, 0, (bsl + w) :: ms, R) q = some y' := fun q y' e => up1_d ti (Nat.le_refl _) e
  -- the condition
  obtain ⟨D2, t2, e2, f2⟩ := hc2 O H nu R (mkc c C (tcN c + 1) (up1 c 1 (u, 0, (bsl + w) :: ms, R))) 0 [] w ms C t1 (no _ (by show tcN c ≤ tcN c + 1; omega)) up1_e nilp (CnC_k cn.1 dU1) (by omega) hR2 (by omega) (by show tcN c + 1 + co.length ≤ _; omega) (fun _ _ => rfl) (fun i hi => by
    show C (tcN c + 1 + i) = _
    rw [Nat.add_assoc, cc (1 + i) (by omega)]; exact k1 i hi)
  have f2' : D2 (tcN c + 1 + co.length) = some (u, 1, (bsl + w) :: ms, R - co.length) := f2
  have t2' : TI O H nu (R - co.length) (mkc c C (tcN c + 1 + co.length) D2) := t2
  have dU2 : ∀ q y', tcD c q = some y' → D2 q = some y' := fun q y' e => dd_of t1 e2 q y' (dU1 q y' e)
  -- its jump
  have t3 := TI_ho (C := C) (y0 := (u, 0, (bsl + w) :: ms, ρ + 1)) (R' := R - co.length - 1) t2' (by show tcN c + 1 + co.length + 1 ≤ _; omega) (fun _ _ => rfl) (by omega)
  generalize hD3 : up1 (mkc c C (tcN c + 1 + co.length) D2) 1 (u, 0, (bsl + w) :: ms, ρ + 1) = D3 at t3
  have dU3 : ∀ q y', D2 q = some y' → D3 q = some y' := fun q y' e => by rw [← hD3]; exact up1_d t2' (Nat.le_refl _) e
  have m3 : D3 (tcN c + 1 + co.length + 1) = some (u, 0, (bsl + w) :: ms, ρ + 1) := by rw [← hD3]; exact up1_e (c := mkc c C (tcN c + 1 + co.length) D2)
  have o3 : ∀ q, q ≤ tcN c + 1 + co.length → D3 q = D2 q := fun q hq => by rw [← hD3]; exact up1_o (by show ¬ q = tcN c + 1 + co.length + 1; omega)
  have t3' : TI O (fun q => H q ∨ q = tcN c + 1 + co.length) nu (R - co.length - 1) (mkc c C (tcN c + (co.length + 2)) D3) := by
    rw [show tcN c + (co.length + 2) = tcN c + 1 + co.length + 1 by omega]; exact t3
  have m3' : D3 (tcN c + (co.length + 2)) = some (u, 0, (bsl + w) :: ms, ρ + 1) := by
    rw [show tcN c + (co.length + 2) = tcN c + 1 + co.length + 1 by omega]; exact m3
  have dU13 : ∀ q y', tcD c q = some y' → D3 q = some y' := fun q y' e => dU3 q y' (dU2 q y' e)
  -- the body
  obtain ⟨D4, t4, e4, f4, g4⟩ := hb O (fun q => H q ∨ q = tcN c + 1 + co.length) nu (R - co.length - 1) (ρ + 1) (mkc c C (tcN c + (co.length + 2)) D3) ms C t3' rfl (fun q hq => no q (by omega)) m3' (StC_k cn dU13) (fun P0 e => by
    cases e
    exact ⟨by show tcN c < tcN c + (co.length + 2); omega, no _ (Nat.le_refl _), ms, ρ, fun i hi => hi, by omega, dU13 _ _ hD⟩) (by omega) (by omega) (by omega) (by omega) (by omega) (fun _ _ => rfl) (fun i hi hn => by
    rw [show tcN c + (co.length + 2) + i = tcN c + (co.length + 2 + i) by omega, cc _ (by omega)]
    exact k3 i hi hn)
  have dU4 : ∀ q y', tcD c q = some y' → D4 q = some y' := fun q y' e => dd_of t3' e4 q y' (dU13 q y' e)
  have eX : tcN c + (co.length + 2) + bo.length + 1 = tcN c + (co.length + bo.length + 3) := by omega
  -- the jump back
  have dU5 : ∀ q y', D4 q = some y' → up1 (mkc c C (tcN c + (co.length + 2) + bo.length) D4) 1 (u, 0, (bsl + w) :: ms, ρ) q = some y' := fun q y' e => up1_d t4 (Nat.le_refl _) e
  have cB : C (tcN c + (co.length + 2) + bo.length) = em 3 (nI 0 - nI (co.length + bo.length + 2)) := by
    rw [show tcN c + (co.length + 2) + bo.length = tcN c + (co.length + 2 + bo.length) by omega, cc _ (by omega)]; exact k5
  have t5 : TI O (fun q => (H q ∨ q = tcN c + 1 + co.length) ∨ ∃ h, h ∈ qb ∧ q = tcN c + (co.length + 2) + h) nu (R - (co.length + bo.length + 3) - (nb + 1)) (mkc c C (tcN c + (co.length + 2) + bo.length + 1) (up1 (mkc c C (tcN c + (co.length + 2) + bo.length) D4) 1 (u, 0, (bsl + w) :: ms, ρ))) := TI_s1 (c := mkc c C (tcN c + (co.length + 2) + bo.length) D4) t4 (no _ (by show tcN c ≤ tcN c + (co.length + 2) + bo.length; omega)) (Nat.le_refl _) (by show tcN c + (co.length + 2) + bo.length + 1 ≤ _; omega) (fun _ _ => rfl) (fun y ey => by
    have ey' : D4 (tcN c + (co.length + 2) + bo.length) = some y := ey
    rw [f4] at ey'
    cases ey'
    refine OKq_of (op := 3) (x := nI 0 - nI (co.length + bo.length + 2)) (dU5 _ _ f4) (no _ (by show tcN c ≤ tcN c + (co.length + 2) + bo.length; omega)) cn.1.2.1 (Nat.le_refl _) (by omega) (by decide) (Nat.le_refl _) (by show C (tcN c + (co.length + 2) + bo.length) &&& 255 = _; rw [cB]; exact em_lo (by decide)) (by show C (tcN c + (co.length + 2) + bo.length) >>> ((8 : Int32) &&& 31) = _; rw [cB]; exact em_hi (by decide) (Sm3_s (by omega) (by omega))) (fun c' a _ _ => OKI_1 (by decide) ⟨fun z => absurd z (by omega), fun _ => ?_, fun z => absurd z (by omega), fun z => absurd z (by omega), fun z => absurd z (by omega)⟩)
    have tg := tg_b (N := tcN c) (a := 0) (b := co.length + bo.length + 2) (by omega) (by omega)
    rw [show tcN c + (co.length + 2) + bo.length = tcN c + (co.length + bo.length + 2) by omega, tg]
    exact nx_of a cn.1.1 (dU5 _ _ (dU4 _ _ hD)) (no _ (Nat.le_refl _)) (Rsh_r _ _) (by rw [bt_s]; exact cn.1.2.2.1) (by rw [bt_s]; exact cn.1.2.2.1) (by omega)) (by omega)
  generalize hD5 : up1 (mkc c C (tcN c + (co.length + 2) + bo.length) D4) 1 (u, 0, (bsl + w) :: ms, ρ) = D5 at t5 dU5
  have m5 : D5 (tcN c + (co.length + bo.length + 3)) = some (u, 0, (bsl + w) :: ms, ρ) := by
    rw [← eX, ← hD5]; exact up1_e (c := mkc c C (tcN c + (co.length + 2) + bo.length) D4)
  rw [eX] at t5
  have j1 : D5 (tcN c + 1 + co.length) = some (u, 1, (bsl + w) :: ms, R - co.length) := dU5 _ _ ((e4 _ (by omega)).trans ((o3 _ (Nat.le_refl _)).trans f2'))
  have j2 : D5 (tcN c + 1 + co.length + 1) = some (u, 0, (bsl + w) :: ms, ρ + 1) := dU5 _ _ ((e4 _ (by omega)).trans m3)
  have t6 := TI_qs (c := mkc c C (tcN c + (co.length + bo.length + 3)) D5) (N0 := tcN c + (co.length + 2)) (X := tcN c + (co.length + bo.length + 3)) (mse := ms) (ms := ms) (w := w) (u := u) (ρt := ρ) hu cn.1.2.2.1 (no _ (by omega)) m5 (fun i hi => hi) (Nat.le_refl _) qb (fun q => H q ∨ q = tcN c + 1 + co.length) t5 (fun h hh => by
    have hl := p1 h hh
    obtain ⟨rk, z1, z2, z3⟩ := g4 h hh
    refine ⟨fun y => ?_, no _ (by omega), by omega, ?_, rk, by omega, z2, dU5 _ _ z3⟩
    · rcases y with y | y
      · have := hz _ y; omega
      · omega
    · show C (tcN c + (co.length + 2) + h) = _
      rw [show tcN c + (co.length + 2) + h = tcN c + (co.length + 2 + h) by omega, cc _ (by omega), k4 h hh]
      exact congrArg (fun z => em 3 (nI z)) (by omega)) p2
  have t7 := TI_f1 (c := mkc c C (tcN c + (co.length + bo.length + 3)) D5) (h0 := tcN c + 1 + co.length) (X := tcN c + (co.length + bo.length + 3)) (mse := ms) (ms := ms) (w := w) (u := u) (ρt := ρ) (k := ρ + 1) (rk := R - co.length) t6 (fun y => by have := hz _ y; omega) hu cn.1.2.2.1 (no _ (by omega)) (no _ (by omega)) (no _ (by omega)) m5 j1 j2 (fun i hi => hi) (by
    show C (tcN c + 1 + co.length) = _
    rw [show tcN c + 1 + co.length = tcN c + (co.length + 1) by omega, cc _ (by omega), k2]
    exact congrArg (fun z => em 4 (nI z)) (by omega)) (by omega) (Nat.le_refl _) (by omega) (by omega) (by omega)
  refine ⟨D5, TI_h t7 (fun q => ⟨fun z => z.elim id (fun ⟨h, y, _⟩ => absurd y List.not_mem_nil), Or.inl⟩), fun q hq => ?_, m5, fun h z => absurd z List.not_mem_nil⟩
  rw [← hD5, up1_o (by show ¬ q = tcN c + (co.length + 2) + bo.length + 1; omega)]
  show D4 q = _
  refine (e4 q (by omega)).trans ((o3 q (by omega)).trans ((e2 q (by show q ≤ tcN c + 1; omega)).trans ?_))
  exact up1_o (by omega)
end CWK
