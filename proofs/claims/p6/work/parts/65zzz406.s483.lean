/-! The class: fors, typed. -/
section CWQ
variable {c c' c1 c2 : Ct} {O O' H H' : Nat → Prop} {u nu nu' pc ln R R' re p d d' rk k op w n m m' q t x y x1 x2 g s N N0 X h h0 Bd Bd' ns na nb pl ρ ρt β w2 Wc fi la cnt a : Nat} {r r' pre ms ms' mse xm lm : List Nat} {x0 v y0 y1 wd : Int32} {Vm Vm' : Nat → Prop} {Pc : Nat → Nat → Prop} {cs cs2 ins tl o co bo : List Int32} {gl : Nat × (Nat → Nat → Prop)} {C : Nat → Int32} {qs qa qb es : List Nat} {lo ow : Option Nat}
/-- a condition behind the iters -/
theorem FRw_cd (k : FRw u gl Pc Vm w N Wc m fi la xm lm cs) (hm : 1 ≤ m) (hV : ∀ i, Vm' i → Vm i ∨ (i ∈ xm ∧ 500000 ≤ i ∧ ∀ s, i = 500000 + s → ¬ s ∈ xm)) (hvm : ∀ i, Vm i → Vm' i) (g : Sgm u 0 gl Vm' 1 o) : FRw u gl Pc Vm w N Wc m fi la xm lm (cs ++ (o ++ [em 4 (nI la - nI (cs.length + o.length))])) := by
  obtain ⟨⟨k1, ⟨k2, k2'⟩, k3⟩, kx, kl', kk⟩ := k
  obtain ⟨g1, g2⟩ := g
  have rk40 : RK = 40000 := rfl
  have el : (cs ++ (o ++ [em 4 (nI la - nI (cs.length + o.length))])).length = cs.length + o.length + 1 := by
    rw [List.length_append, List.length_append]
    show cs.length + (o.length + 1) = _
    omega
  have l3 := k3 hm
  refine ⟨⟨k1, ⟨by rw [el]; omega, k2'⟩, fun _ => by rw [el]; omega⟩, kx, kl', fun O H nu R ρ β w2 c ms C ti eN no hD cn hR1 hR2 hρ hβ hw1 hw2 hN hC1 hC2 hC3 re hre => ?_⟩
  rw [el] at hR1 hN hC2 hre ⊢
  have hF := cn.1.2.2.1
  obtain ⟨D1, t1, e1, e2, e3⟩ := kk O H nu R ρ β w2 c ms C ti eN no hD cn (by omega) hR2 hρ (by omega) (by omega) hw2 (by omega) hC1 (fun i hi h1 h2 => by
    rw [hC2 i (by omega) h1 h2, gd_l hi]) hC3 (R - cs.length) (Nat.le_refl _)
  have dU1 : ∀ q y', tcD c q = some y' → D1 q = some y' := fun q y' e => dd_of ti (fun q hq => e1 q (by omega)) q y' e
  have xb : ∀ i, i ∈ xm → i < bsl ∧ w ≤ i % 500000 ∧ i % 500000 < w2 := fun i hi => by have := kx i hi; omega
  have cn1 : StC O u gl Pc Vm' nu c w2 (xm ++ ms) := StC_f cn (by omega) hw2 xb hV (StC_v cn) hvm
  have u42 := cn.1.2.1
  obtain ⟨D2, t2, e4, e5⟩ := g2 O (fun q => H q ∨ (1 ≤ m ∧ q = N + fi)) nu (R - cs.length) (mkc c C (N + cs.length) D1) 0 [] w2 (xm ++ ms) C t1 (no _ (by show N ≤ N + cs.length; omega)) e2 nilp (CnC_k cn1.1 dU1) (by omega) (by omega) (by omega) (by show N + cs.length + o.length ≤ _; omega) (fun _ _ => rfl) (fun i hi => by
    show C (N + cs.length + i) = _
    rw [Nat.add_assoc, hC2 (cs.length + i) (by omega) (by omega) (fun _ => by omega), gd_r, gd_l hi])
  have e5' : D2 (N + cs.length + o.length) = some (u, 1, (bsl + w2) :: (xm ++ ms), R - cs.length - o.length) := e5
  have t2' : TI O (fun q => H q ∨ (1 ≤ m ∧ q = N + fi)) nu (R - cs.length - o.length) (mkc c C (N + cs.length + o.length) D2) := t2
  have dU2 : ∀ q y', D1 q = some y' → D2 q = some y' := fun q y' e => dd_of t1 e4 q y' e
  have cJ : C (N + cs.length + o.length) = em 4 (nI la - nI (cs.length + o.length)) := by
    rw [show N + cs.length + o.length = N + (cs.length + (o.length + 0)) by omega, hC2 _ (by omega) (by omega) (fun _ => by omega), gd_r, gd_r]; rfl
  obtain ⟨eA, eL⟩ := e3 hm
  have t3 : TI O (fun q => H q ∨ (1 ≤ m ∧ q = N + fi)) nu (R - (cs.length + o.length + 1)) (mkc c C (N + cs.length + o.length + 1) (up1 (mkc c C (N + cs.length + o.length) D2) 1 (u, 0, (bsl + w2) :: (xm ++ ms), re))) := TI_s1 (c := mkc c C (N + cs.length + o.length) D2) t2' (no _ (by show N ≤ N + cs.length + o.length; omega)) (Nat.le_refl _) (by show N + cs.length + o.length + 1 ≤ _; omega) (fun _ _ => rfl) (fun y ey => by
    have ey' : D2 (N + cs.length + o.length) = some y := ey
    rw [e5'] at ey'
    cases ey'
    have ue : up1 (mkc c C (N + cs.length + o.length) D2) 1 (u, 0, (bsl + w2) :: (xm ++ ms), re) (N + cs.length + o.length + 1) = some (u, 0, (bsl + w2) :: (xm ++ ms), re) := up1_e (c := mkc c C (N + cs.length + o.length) D2)
    have eL' : up1 (mkc c C (N + cs.length + o.length) D2) 1 (u, 0, (bsl + w2) :: (xm ++ ms), re) (N + la) = some (u, 0, (bsl + w2) :: (lm ++ ms), β + m) := up1_d t2' (Nat.le_refl _) (dU2 _ _ eL)
    refine OKq_of (op := 4) (x := nI la - nI (cs.length + o.length)) (up1_d t2' (Nat.le_refl _) e5') (no _ (by show N ≤ N + cs.length + o.length; omega)) u42 (Nat.le_refl _) (by omega) (by decide) (Nat.le_refl _) (by show C (N + cs.length + o.length) &&& 255 = _; rw [cJ]; exact em_lo (by decide)) (by show C (N + cs.length + o.length) >>> ((8 : Int32) &&& 31) = _; rw [cJ]; exact em_hi (by decide) (Sm3_s (by omega) (by omega))) (fun c' a' hc ro => OKI_1 (by decide) ⟨fun z => absurd z (by omega), fun z => absurd z (by omega), fun _ => ⟨0, rfl, nx_of a' cn.1.1 ue (no _ (by show N ≤ N + cs.length + o.length + 1; omega)) (Rsh_r _ _) (by rw [bt_s]; show tcF c u ≤ w2; omega) (by rw [bt_s]; show tcF c u ≤ w2; omega) (by omega), ?_⟩, fun z => absurd z (by omega), fun z => absurd z (by omega)⟩)
    have tg := tg_b (N := N) (a := la) (b := cs.length + o.length) (by omega) (by omega)
    show Nx c' (uN (nI (N + cs.length + o.length) + (nI la - nI (cs.length + o.length)))) u 0 _ _
    rw [show N + cs.length + o.length = N + (cs.length + o.length) by omega, tg]
    exact nx_of a' cn.1.1 eL' (no _ (by show N ≤ N + la; omega)) (Rsh_m0 (fun i hi => by
      rcases List.mem_append.1 hi with z | z
      · exact List.mem_append_left _ (kl' i z)
      · exact List.mem_append_right _ z)) (by rw [bt_s]; show tcF c u ≤ w2; omega) (by rw [bt_s]; show tcF c u ≤ w2; omega) (by omega)) (by omega)
  generalize hD3 : up1 (mkc c C (N + cs.length + o.length) D2) 1 (u, 0, (bsl + w2) :: (xm ++ ms), re) = D3 at t3
  have m3 : D3 (N + cs.length + o.length + 1) = some (u, 0, (bsl + w2) :: (xm ++ ms), re) := by rw [← hD3]; exact up1_e (c := mkc c C (N + cs.length + o.length) D2)
  have eT : N + cs.length + o.length + 1 = N + (cs.length + o.length + 1) := by rw [Nat.add_assoc, Nat.add_assoc, Nat.add_assoc]
  rw [eT] at t3 m3
  have up : ∀ q, q ≤ N + cs.length → D3 q = D1 q := fun q hq => by
    rw [← hD3, up1_o (by show ¬ q = N + cs.length + o.length + 1; omega)]; exact e4 q hq
  obtain ⟨n1, ⟨a1, a2, a3⟩, a4, a5, rk, a6, a7⟩ := eA
  refine ⟨D3, t3, fun q hq => (up q (by omega)).trans (e1 q hq), m3, fun _ => ⟨⟨n1, ⟨a1, a2, a3⟩, (up _ (by omega)).trans a4, (up _ (by omega)).trans a5, rk, a6, (up _ (by omega)).trans a7⟩, (up _ (by omega)).trans eL⟩⟩
/-- FOR_CLEARs -/
def fcL : List (Nat × Nat × Nat) → List Int32
  | [] => []
  | e :: l => em 73 (nI e.1) :: nI e.2.1 :: nI e.2.2 :: fcL l
theorem fcL_l : ∀ l : List (Nat × Nat × Nat), (fcL l).length = 3 * l.length
  | [] => rfl
  | e :: l => by
    show (fcL l).length + 1 + 1 + 1 = 3 * (l.length + 1)
    rw [fcL_l l]; omega
theorem TI_fc (hw : w ≤ w2) : ∀ (l : List (Nat × Nat × Nat)) (c : Ct) (rs R : Nat), (∀ e, e ∈ l → (w ≤ e.1 ∧ e.1 + 1 < w2) ∧ w ≤ e.2.1 ∧ e.2.1 + e.2.2 ≤ w2) → TI O H nu R c → (∀ q, tcN c ≤ q → ¬ O q) → tcD c (tcN c) = some (u, 0, (bsl + w2) :: ms, rs + l.length) → StC O u gl Pc Vm nu c w2 ms → tcF c u ≤ w → (∀ i, i ∈ ms → i % 500000 < w) → rs + l.length ≤ 999 → R ≤ RK → tcN c + 3 * l.length ≤ 36864 → (∀ i, i < tcN c → C i = tcC c i) → (∀ i, i < 3 * l.length → C (tcN c + i) = (fcL l).getD i 0) → ∃ D, TI O H nu R (mkc c C (tcN c + 3 * l.length) D) ∧ (∀ q, q ≤ tcN c → D q = tcD c q) ∧ D (tcN c + 3 * l.length) = some (u, 0, (bsl + w2) :: ms, rs)
  | [], c, rs, R, _, ti, no, hD, cn, hF, hms, h9, hR, hN, hC1, hC2 => by
    refine ⟨tcD c, ?_, fun _ _ => rfl, hD⟩
    exact TI_tb (y := tcD c (tcN c)) (On := False) (nu' := nu) ti hC1 rfl (fun u => Or.inl (CtG_r O u nu c)) (Nat.le_refl _) (Or.inr rfl) (fun q => by
      show tcD c q = _
      by_cases z : q = tcN c
      · rw [if_pos z, z]
      · rw [if_neg z]) (fun q => ⟨Or.inl, fun z => z.elim id (fun w => w.2.elim)⟩) (fun z => z.elim) (Nat.le_refl _)
  | e :: l, c, rs, R, hl, ti, no, hD, cn, hF, hms, h9, hR, hN, hC1, hC2 => by
    have el : (e :: l).length = l.length + 1 := rfl
    rw [el] at hD h9 hN hC2 ⊢
    obtain ⟨⟨z1, z2⟩, z3, z4⟩ := hl e List.mem_cons_self
    have w200 := cn.2.1.2.2
    have rk40 : RK = 40000 := rfl
    have bs : bsl = 1000000 := rfl
    have c0 : C (tcN c) = em 73 (nI e.1) := hC2 0 (by omega)
    have c1 : C (tcN c + 1) = nI e.2.1 := hC2 1 (by omega)
    have c2 : C (tcN c + 2) = nI e.2.2 := hC2 2 (by omega)
    have dU : ∀ q y', tcD c q = some y' → up1 c 3 (u, 0, (bsl + w2) :: ms, rs + l.length) q = some y' := fun q y' e => up1_d ti (by decide) e
    have t1 : TI O H nu R (mkc c C (tcN c + 3) (up1 c 3 (u, 0, (bsl + w2) :: ms, rs + l.length))) := TI_s1 ti (no _ (Nat.le_refl _)) (by decide) (by omega) hC1 (fun y ey => by
      rw [hD] at ey
      cases ey
      exact OKq_of (op := 73) (x := nI e.1) (dU _ _ hD) (no _ (Nat.le_refl _)) cn.1.2.1 (by show tcN c + 1 ≤ tcN c + 3; omega) (by omega) (by decide) (by decide) (by show C (tcN c) &&& 255 = _; rw [c0]; exact em_lo (by decide)) (by show C (tcN c) >>> ((8 : Int32) &&& 31) = _; rw [c0]; exact em_hi (by decide) (Sm3_n (by omega))) (fun c' a' hc ro => OKI_4 (by decide) ⟨by decide, by rw [u_n (by omega)]; omega, by
        rw [u_n (by omega)]
        have eF0 := tF_of a' cn.1.1
        have eF : tcF c' u = tcF c u := eF0
        have n1 : tcN c + 3 ≤ tcN c' := a'.1
        have c1' : tcC c' (tcN c + 1) = nI e.2.1 := (hc (tcN c + 1) (by omega) (by omega)).trans c1
        have c2' : tcC c' (tcN c + 2) = nI e.2.2 := (hc (tcN c + 2) (by omega) (by omega)).trans c2
        exact ⟨fun z => absurd z (by decide), fun z => absurd z (by decide), fun z => absurd z (by decide), fun z => absurd z (by decide), fun z => absurd z (by decide), fun _ => ⟨tS_of a' cn.1.1 cn.2.1.1, sh_slb (w := w2) (ms := ms) []⟩, fun z => absurd z (by decide), fun z => absurd z (by decide), fun z => absurd z (by decide), fun z => absurd z (by decide), fun _ => ⟨(bsl + w2) :: ms, by omega, by rw [bt_s]; exact z2, by rw [eF]; omega, shAll (w := w2) (ms := ms) [] nilp (fun i hi _ => by have := hms i hi; omega), by rw [c1', c2', u_n (by omega), u_n (by omega), bt_s]; exact z4, by
          rw [c1', c2', u_n (by omega), u_n (by omega)]
          exact shAll (w := w2) (ms := ms) [] nilp (fun i hi z => by have := hms i hi; have := st_bs cn i hi; omega), sh_mrl (w := w2) (ms := ms) [] nilp (fun i hi => hi), nx_of a' cn.1.1 up1_e (no _ (by omega)) (Rsh_r _ _) (by rw [bt_s]; show tcF c u ≤ w2; omega) (by rw [bt_s]; show tcF c u ≤ w2; omega) (by show rs + l.length < rs + (l.length + 1); omega)⟩⟩⟩)) (Nat.le_refl _)
    obtain ⟨D, t2, e2, f2⟩ := TI_fc hw l (mkc c C (tcN c + 3) (up1 c 3 (u, 0, (bsl + w2) :: ms, rs + l.length))) rs R (fun e he => hl e (List.mem_cons_of_mem _ he)) t1 (fun q hq => no q (by have : tcN c + 3 ≤ q := hq; omega)) up1_e (StC_k cn dU) hF hms (by omega) hR (by show tcN c + 3 + 3 * l.length ≤ _; omega) (fun _ _ => rfl) (fun i hi => by
      show C (tcN c + 3 + i) = _
      rw [show tcN c + 3 + i = tcN c + (i + 3) by omega]
      exact hC2 (i + 3) (by omega))
    have eT : tcN c + 3 + 3 * l.length = tcN c + 3 * (l.length + 1) := by omega
    have t2' : TI O H nu R (mkc c C (tcN c + 3 + 3 * l.length) D) := t2
    have f2' : D (tcN c + 3 + 3 * l.length) = some (u, 0, (bsl + w2) :: ms, rs) := f2
    rw [eT] at t2' f2'
    exact ⟨D, t2', fun q hq => (e2 q (by show q ≤ tcN c + 3; omega)).trans (up1_o (by omega)), f2'⟩
end CWQ
