/-! The class: fors, typed. -/
section CWR
variable {c c' c1 c2 : Ct} {O O' H H' : Nat → Prop} {u nu nu' pc ln R R' re p d d' rk k op w n m m' q t x y x1 x2 g s N N0 X h h0 Bd Bd' ns na nb pl ρ ρt β w2 Wc fi la cnt a : Nat} {r r' pre ms ms' mse xm lm : List Nat} {x0 v y0 y1 wd : Int32} {Vm Vm' : Nat → Prop} {Pc : Nat → Nat → Prop} {cs cs2 ins tl o co bo : List Int32} {gl : Nat × (Nat → Nat → Prop)} {C : Nat → Int32} {qs qa qb es : List Nat} {lo ow : Option Nat} {l : List (Nat × Nat × Nat)}
/-- for .. do .. end -/
theorem Stm_fo (k : FRw u gl Pc Vm w N w2 m fi la xm lm cs) (hm : 1 ≤ m) (hV : ∀ i, Vm' i → Vm i ∨ (i ∈ xm ∧ 500000 ≤ i ∧ ∀ s, i = 500000 + s → ¬ s ∈ xm)) (hvm : ∀ i, Vm i → Vm' i) (hw : w2 ≤ 200) (hb : Stm u gl Pc Vm' w2 (N + cs.length) (some (N + la)) Bd' nb qb bo) (hB : Bd' + m + l.length + 3 ≤ Bd) (hl : ∀ e, e ∈ l → (w ≤ e.1 ∧ e.1 + 1 < w2) ∧ w ≤ e.2.1 ∧ e.2.1 + e.2.2 ≤ w2) (len : cs2.length = cs.length + bo.length + 1 + 3 * l.length + 1) (k1 : ∀ i, i < cs.length → ¬ i = 1 → ¬ i = fi + 1 → cs2.getD i 0 = cs.getD i 0) (k2 : cs2.getD 1 0 = em 42 (nI (w2 - w))) (k3 : cs2.getD (fi + 1) 0 = nI (cs.length + bo.length + 1 - fi)) (k4 : ∀ i, i < bo.length → ¬ i ∈ qb → cs2.getD (cs.length + i) 0 = bo.getD i 0) (k5 : ∀ h, h ∈ qb → cs2.getD (cs.length + h) 0 = em 3 (nI (bo.length + 1 - h))) (k6 : cs2.getD (cs.length + bo.length) 0 = em 3 (nI la - nI (cs.length + bo.length))) (k7 : ∀ i, i < 3 * l.length → cs2.getD (cs.length + bo.length + 1 + i) 0 = (fcL l).getD i 0) (k8 : cs2.getD (cs.length + bo.length + 1 + 3 * l.length) 0 = em 37 (nI (w2 - w))) : Stm u gl Pc Vm w N lo Bd (nb + 1) [] cs2 := by
  obtain ⟨⟨w1, ⟨l2, _⟩, lf⟩, kx, kl', kk⟩ := k
  obtain ⟨⟨p1, p2⟩, hb⟩ := hb
  obtain ⟨lf1, lf2, lf3⟩ := lf hm
  refine ⟨⟨fun h z => absurd z List.not_mem_nil, List.Pairwise.nil⟩, fun O H nu R ρ c ms C ti eN no hD cn lp hR1 hR2 h2 hB' hN hC1 hC2 => ?_⟩
  rw [len] at hR1 hN hC2 ⊢
  have rk40 : RK = 40000 := rfl
  have bs : bsl = 1000000 := rfl
  have hu : (u ≤ nu ∨ u = 41) ∧ u < 42 := ⟨cn.1.1, cn.1.2.1⟩
  have hz : ∀ q, H q → q < N := fun q z => by have := ti.2.2.1 q z; omega
  have hF := cn.1.2.2.1
  have cc : ∀ i, i < cs.length + bo.length + 1 + 3 * l.length + 1 → C (N + i) = cs2.getD i 0 := fun i hi => hC2 i hi List.not_mem_nil
  have msw : ∀ i, i ∈ ms → i % 500000 < w := cn.2.2.1.2
  -- the row of iters
  obtain ⟨D1, t1, e1, e2, e3⟩ := kk O H nu R ρ (ρ + 1 + l.length) w2 c ms C ti eN no hD cn (by omega) hR2 (by omega) (by omega) (Nat.le_refl _) hw (by omega) hC1 (fun i hi h1 h3 => (cc i (by omega)).trans (k1 i hi h1 (h3 hm))) ((cc 1 (by omega)).trans k2) (ρ + 1 + l.length + m + 1) (by omega)
  obtain ⟨⟨n1, ⟨a1, a2, a3⟩, a4, a5, rkf, a6, a7⟩, eL⟩ := e3 hm
  have dU1 : ∀ q y', tcD c q = some y' → D1 q = some y' := fun q y' e => dd_of ti (fun q hq => e1 q (by omega)) q y' e
  have xb : ∀ i, i ∈ xm → i < bsl ∧ w ≤ i % 500000 ∧ i % 500000 < w2 := kx
  have cn1 : StC O u gl Pc Vm' nu c w2 (xm ++ ms) := StC_f cn w1 hw xb hV (StC_v cn) hvm
  -- its statements
  obtain ⟨D2, t2, e4, f4, g4⟩ := hb O (fun q => H q ∨ (1 ≤ m ∧ q = N + fi)) nu (R - cs.length) (ρ + 1 + l.length + m + 1) (mkc c C (N + cs.length) D1) (xm ++ ms) C t1 rfl (fun q hq => no q (by omega)) e2 (StC_k cn1 dU1) (fun P0 e => by
    cases e
    exact ⟨by show N + la < N + cs.length; omega, no _ (by omega), lm ++ ms, ρ + 1 + l.length + m, fun i hi => by
      rcases List.mem_append.1 hi with z | z
      · exact List.mem_append_left _ (kl' i z)
      · exact List.mem_append_right _ z, by omega, eL⟩) (by omega) (by omega) (by omega) (by omega) (by omega) (fun _ _ => rfl) (fun i hi hn => by
    rw [Nat.add_assoc, cc _ (by omega)]; exact k4 i hi hn)
  have dU2 : ∀ q y', D1 q = some y' → D2 q = some y' := fun q y' e => dd_of t1 e4 q y' e
  have dU02 : ∀ q y', tcD c q = some y' → D2 q = some y' := fun q y' e => dU2 q y' (dU1 q y' e)
  -- the jump back; behind it the rows are let go
  have cB : C (N + cs.length + bo.length) = em 3 (nI la - nI (cs.length + bo.length)) := by
    rw [Nat.add_assoc, cc _ (by omega)]; exact k6
  have dU3 : ∀ q y', D2 q = some y' → up1 (mkc c C (N + cs.length + bo.length) D2) 1 (u, 0, (bsl + w2) :: ms, ρ + 1 + l.length) q = some y' := fun q y' e => up1_d t2 (Nat.le_refl _) e
  have t3 : TI O (fun q => (H q ∨ (1 ≤ m ∧ q = N + fi)) ∨ ∃ h, h ∈ qb ∧ q = N + cs.length + h) nu (R - cs.length - bo.length - nb) (mkc c C (N + cs.length + bo.length + 1) (up1 (mkc c C (N + cs.length + bo.length) D2) 1 (u, 0, (bsl + w2) :: ms, ρ + 1 + l.length))) := TI_s1 (c := mkc c C (N + cs.length + bo.length) D2) t2 (no _ (by show N ≤ N + cs.length + bo.length; omega)) (Nat.le_refl _) (by show N + cs.length + bo.length + 1 ≤ _; omega) (fun _ _ => rfl) (fun y ey => by
    have ey' : D2 (N + cs.length + bo.length) = some y := ey
    rw [f4] at ey'
    cases ey'
    refine OKq_of (op := 3) (x := nI la - nI (cs.length + bo.length)) (dU3 _ _ f4) (no _ (by show N ≤ N + cs.length + bo.length; omega)) cn.1.2.1 (Nat.le_refl _) (by omega) (by decide) (Nat.le_refl _) (by show C (N + cs.length + bo.length) &&& 255 = _; rw [cB]; exact em_lo (by decide)) (by show C (N + cs.length + bo.length) >>> ((8 : Int32) &&& 31) = _; rw [cB]; exact em_hi (by decide) (Sm3_s (by omega) (by omega))) (fun c' a _ _ => OKI_1 (by decide) ⟨fun z => absurd z (by omega), fun _ => ?_, fun z => absurd z (by omega), fun z => absurd z (by omega), fun z => absurd z (by omega)⟩)
    have tg := tg_b (N := N) (a := la) (b := cs.length + bo.length) (by omega) (by omega)
    rw [show N + cs.length + bo.length = N + (cs.length + bo.length) by omega, tg]
    have eLu : up1 (mkc c C (N + (cs.length + bo.length)) D2) 1 (u, 0, (bsl + w2) :: ms, ρ + 1 + l.length) (N + la) = some (u, 0, (bsl + w2) :: (lm ++ ms), ρ + 1 + l.length + m) := by
      have z := dU3 _ _ (dU2 _ _ eL)
      rw [show N + cs.length + bo.length = N + (cs.length + bo.length) by omega] at z
      exact z
    rw [show N + cs.length + bo.length = N + (cs.length + bo.length) by omega] at a
    exact nx_of a cn.1.1 eLu (no _ (by show N ≤ N + la; omega)) (Rsh_m0 (fun i hi => by
      rcases List.mem_append.1 hi with z | z
      · exact List.mem_append_left _ (kl' i z)
      · exact List.mem_append_right _ z)) (by rw [bt_s]; show tcF c u ≤ w2; omega) (by rw [bt_s]; show tcF c u ≤ w2; omega) (by omega)) (Nat.le_refl _)
  generalize hD3 : up1 (mkc c C (N + cs.length + bo.length) D2) 1 (u, 0, (bsl + w2) :: ms, ρ + 1 + l.length) = D3 at t3 dU3
  have m3 : D3 (N + cs.length + bo.length + 1) = some (u, 0, (bsl + w2) :: ms, ρ + 1 + l.length) := by rw [← hD3]; exact up1_e (c := mkc c C (N + cs.length + bo.length) D2)
  have o3 : ∀ q, q ≤ N + cs.length + bo.length → D3 q = D2 q := fun q hq => by rw [← hD3]; exact up1_o (by show ¬ q = N + cs.length + bo.length + 1; omega)
  -- quits
  have t4 := TI_qs (c := mkc c C (N + cs.length + bo.length + 1) D3) (N0 := N + cs.length) (X := N + cs.length + bo.length + 1) (mse := ms) (ms := xm ++ ms) (w := w2) (u := u) (ρt := ρ + 1 + l.length) hu (by show tcF c u ≤ w2; omega) (no _ (by omega)) m3 (fun i hi => List.mem_append_right _ hi) (Nat.le_refl _) qb (fun q => H q ∨ (1 ≤ m ∧ q = N + fi)) t3 (fun h hh => by
    have hlt := p1 h hh
    obtain ⟨rk, z1, z2, z3⟩ := g4 h hh
    refine ⟨fun y => ?_, no _ (by omega), by omega, ?_, rk, by omega, z2, dU3 _ _ z3⟩
    · rcases y with y | y
      · have := hz _ y; omega
      · omega
    · show C (N + cs.length + h) = _
      rw [Nat.add_assoc, cc _ (by omega), k5 h hh]
      exact congrArg (fun z => em 3 (nI z)) (by omega)) p2
  -- the first FOR_NEXT: where there is nothing left
  have b4 : D3 (N + fi) = some (u, 0, (bsl + w2) :: (n1 :: ([] ++ ms)), ρ + 1 + l.length + 1) := dU3 _ _ (dU2 _ _ a4)
  have b5 : D3 (N + fi + 1) = none := by
    rw [o3 _ (by omega)]
    exact (e4 _ (by show N + fi + 1 ≤ N + cs.length; omega)).trans a5
  have b7 : D3 (N + fi + 2) = some (u, 1, (bsl + w2) :: (n1 :: ([] ++ ms)), rkf) := dU3 _ _ (dU2 _ _ a7)
  have hfz : ¬ H (N + fi) := fun z => by have := hz _ z; omega
  have amr : ∀ i, i ∈ n1 :: ([] ++ ms) → i < bsl ∧ ¬ i % 500000 = n1 + 1 := fun i hi => by
    rcases List.mem_cons.1 hi with z | z
    · rw [z]; omega
    · have z' : i ∈ ms := z
      have := msw i z'; have := st_bs cn i z'; omega
  have t5 : TI O H nu (R - cs.length - bo.length - nb) (mkc c C (N + cs.length + bo.length + 1) D3) := by
    refine TI_fi (ln := 2) (h := N + fi) (c := mkc c C (N + cs.length + bo.length + 1) D3) t4 (by decide) (Or.inr ⟨hm, rfl⟩) (no _ (by omega)) (by show N + fi + 2 ≤ N + cs.length + bo.length + 1; omega) (fun _ _ => rfl) rfl b4 (fun i y h1 h3 e => ?_) (fun h' hh => ?_) (fun q => ⟨fun z => ⟨Or.inl z, fun e => hfz (e ▸ z)⟩, fun z => z.1.elim id (fun y => absurd y.2 z.2)⟩) ?_
    · have : i = N + fi + 1 := by omega
      subst this
      have e' : D3 (N + fi + 1) = some y := e
      rw [b5] at e'
      cases e'
    · rcases hh with z | z
      · have := hz _ z; omega
      · omega
    · refine OKq_of (op := 70) (x := nI n1) b4 (no _ (by show N ≤ N + fi; omega)) cn.1.2.1 (by show N + fi + 1 ≤ N + cs.length + bo.length + 1; omega) (by omega) (by decide) (by decide) (by show C (N + fi) &&& 255 = _; rw [a1]; exact em_lo (by decide)) (by show C (N + fi) >>> ((8 : Int32) &&& 31) = _; rw [a1]; exact em_hi (by decide) (Sm3_n (by omega))) (fun c' a' hc ro => OKI_4 (by decide) ⟨by decide, by rw [u_n (by omega)]; omega, ?_⟩)
      rw [u_n (by omega)]
      have eF0 := tF_of a' cn.1.1
      have eF : tcF c' u = tcF c u := eF0
      have nn : N + cs.length + bo.length + 1 ≤ tcN c' := a'.1
      have cw : tcC c' (N + fi + 1) = nI (cs.length + bo.length + 1 - fi) := ((hc (N + fi + 1) (by omega) (by omega)).trans (show C (N + fi + 1) = C (N + (fi + 1)) from rfl)).trans ((cc _ (by omega)).trans k3)
      have tg := tg_f (h0 := N + fi) (X := N + cs.length + bo.length + 1) (by omega) (by omega)
      rw [show N + cs.length + bo.length + 1 - (N + fi) = cs.length + bo.length + 1 - fi by omega] at tg
      exact ⟨fun z => absurd z (by decide), fun z => absurd z (by decide), fun z => absurd z (by decide), fun z => absurd z (by decide), fun z => absurd z (by decide), fun _ => ⟨tS_of a' cn.1.1 cn.2.1.1, sh_slb (w := w2) (ms := n1 :: ([] ++ ms)) []⟩, fun z => absurd z (by decide), fun _ => ⟨(bsl + w2) :: ms, sh_has (w := w2) (ms := n1 :: ([] ++ ms)) [] nilp List.mem_cons_self, by rw [bt_s]; omega, by rw [eF]; omega, shAll (w := w2) (ms := n1 :: ([] ++ ms)) [] nilp (fun i hi _ => (amr i hi).2), by omega, sh_mrl (w := w2) (ms := n1 :: ([] ++ ms)) [] nilp (fun i hi => List.mem_cons_of_mem _ hi), by
        rw [cw, tg]
        exact nx_of a' cn.1.1 m3 (no _ (by omega)) (Rsh_r _ _) (by rw [bt_s]; show tcF c u ≤ w2; omega) (by rw [bt_s]; show tcF c u ≤ w2; omega) (by omega), nxS_of a' cn.1.1 b7 (no _ (by omega)) (Rsh_r _ _) (by rw [bt_s]; show tcF c u ≤ w2; omega) (by rw [bt_s]; show tcF c u ≤ w2; omega) (by omega)⟩, fun z => absurd z (by decide), fun z => absurd z (by decide), fun z => absurd z (by decide)⟩
  -- FOR_CLEARs
  have dU03 : ∀ q y', tcD c q = some y' → D3 q = some y' := fun q y' e => dU3 q y' (dU02 q y' e)
  have cn5 : StC O u gl Pc Vm nu (mkc c C (N + cs.length + bo.length + 1) D3) w2 ms := StC_k (StC_f (xm := []) cn w1 hw (fun i hi => absurd hi List.not_mem_nil) (fun i hi => Or.inl hi) (StC_v cn) (fun i hi => hi)) dU03
  obtain ⟨D6, t6, e6, f6⟩ := TI_fc (C := C) w1 l (mkc c C (N + cs.length + bo.length + 1) D3) (ρ + 1) (R - cs.length - bo.length - nb) hl t5 (fun q hq => no q (by have : N + cs.length + bo.length + 1 ≤ q := hq; omega)) m3 cn5 hF msw (by omega) (by omega) (by show N + cs.length + bo.length + 1 + 3 * l.length ≤ _; omega) (fun _ _ => rfl) (fun i hi => by
    show C (N + cs.length + bo.length + 1 + i) = _
    rw [show N + cs.length + bo.length + 1 + i = N + (cs.length + bo.length + 1 + i) by omega, cc _ (by omega)]
    exact k7 i hi)
  have t6' : TI O H nu (R - cs.length - bo.length - nb) (mkc c C (N + cs.length + bo.length + 1 + 3 * l.length) D6) := t6
  have f6' : D6 (N + cs.length + bo.length + 1 + 3 * l.length) = some (u, 0, (bsl + w2) :: ms, ρ + 1) := f6
  -- DROP
  have cD : C (N + cs.length + bo.length + 1 + 3 * l.length) = em 37 (nI (w2 - w)) := by
    rw [show N + cs.length + bo.length + 1 + 3 * l.length = N + (cs.length + bo.length + 1 + 3 * l.length) by omega, cc _ (by omega)]; exact k8
  have t7 : TI O H nu (R - (cs.length + bo.length + 1 + 3 * l.length + 1) - (nb + 1)) (mkc c C (N + cs.length + bo.length + 1 + 3 * l.length + 1) (up1 (mkc c C (N + cs.length + bo.length + 1 + 3 * l.length) D6) 1 (u, 0, (bsl + w) :: ms, ρ))) := TI_s1 (c := mkc c C (N + cs.length + bo.length + 1 + 3 * l.length) D6) t6' (no _ (by show N ≤ N + cs.length + bo.length + 1 + 3 * l.length; omega)) (Nat.le_refl _) (by show N + cs.length + bo.length + 1 + 3 * l.length + 1 ≤ _; omega) (fun _ _ => rfl) (fun y ey => by
    have ey' : D6 (N + cs.length + bo.length + 1 + 3 * l.length) = some y := ey
    rw [f6'] at ey'
    cases ey'
    have ue : up1 (mkc c C (N + cs.length + bo.length + 1 + 3 * l.length) D6) 1 (u, 0, (bsl + w) :: ms, ρ) (N + cs.length + bo.length + 1 + 3 * l.length + 1) = some (u, 0, (bsl + w) :: ms, ρ) := up1_e (c := mkc c C (N + cs.length + bo.length + 1 + 3 * l.length) D6)
    exact OKq_of (op := 37) (x := nI (w2 - w)) (up1_d t6' (Nat.le_refl _) f6') (no _ (by show N ≤ N + cs.length + bo.length + 1 + 3 * l.length; omega)) cn.1.2.1 (Nat.le_refl _) (by omega) (by decide) (Nat.le_refl _) (by show C (N + cs.length + bo.length + 1 + 3 * l.length) &&& 255 = _; rw [cD]; exact em_lo (by decide)) (by show C (N + cs.length + bo.length + 1 + 3 * l.length) >>> ((8 : Int32) &&& 31) = _; rw [cD]; exact em_hi (by decide) (Sm3_n (by omega))) (fun c' a hc ro => OKI_2 (by decide) ⟨fun z => absurd z (by decide), fun z => absurd z (by decide), fun z => absurd z (by decide), fun z => absurd z (by decide), fun z => absurd z (by decide), fun _ => ⟨0, (bsl + w) :: ms, by
      rw [u_n (by omega)]
      have rs := Drp_ds (d := 0) (w := w) (n := w2 - w) (ms := ms) (ms' := ms) (fun i h => ⟨h, fun _ => msw i h⟩)
      rw [show w + (w2 - w) = w2 by omega] at rs
      exact rs, nx_of a cn.1.1 ue (no _ (by show N ≤ N + cs.length + bo.length + 1 + 3 * l.length + 1; omega)) (Rsh_r _ _) (by rw [bt_s]; exact hF) (by rw [bt_s]; exact hF) (by omega)⟩, fun z => absurd z (by decide), fun z => absurd z (by decide), fun z => absurd z (by decide), fun z => absurd z (by decide), fun z => absurd z (by omega)⟩)) (by omega)
  generalize hD7 : up1 (mkc c C (N + cs.length + bo.length + 1 + 3 * l.length) D6) 1 (u, 0, (bsl + w) :: ms, ρ) = D7 at t7
  have m7 : D7 (N + cs.length + bo.length + 1 + 3 * l.length + 1) = some (u, 0, (bsl + w) :: ms, ρ) := by rw [← hD7]; exact up1_e (c := mkc c C (N + cs.length + bo.length + 1 + 3 * l.length) D6)
  have o7 : ∀ q, q ≤ N + cs.length + bo.length + 1 + 3 * l.length → D7 q = D6 q := fun q hq => by rw [← hD7]; exact up1_o (by show ¬ q = N + cs.length + bo.length + 1 + 3 * l.length + 1; omega)
  have eT : N + cs.length + bo.length + 1 + 3 * l.length + 1 = N + (cs.length + bo.length + 1 + 3 * l.length + 1) := by omega
  rw [eT] at t7 m7
  refine ⟨D7, TI_h t7 (fun q => ⟨fun z => z.elim id (fun ⟨h, y, _⟩ => absurd y List.not_mem_nil), Or.inl⟩), fun q hq => ?_, m7, fun h z => absurd z List.not_mem_nil⟩
  exact (o7 q (by omega)).trans ((e6 q (by show q ≤ N + cs.length + bo.length + 1; omega)).trans ((o3 q (by omega)).trans ((e4 q (by show q ≤ N + cs.length; omega)).trans (e1 q hq))))
end CWR
