/-! The class: jumps of statements are aimed; whiles. -/
section CWJ
variable {c c' c1 c2 : Ct} {O O' H H' : Nat → Prop} {u nu nu' pc ln R R' re p d d' rk k op w n m m' q t x y x1 x2 g s N N0 X h0 Bd Bd' ns na nb pl ρ ρt : Nat} {r r' pre ms ms' mse : List Nat} {x0 v : Int32} {Vm : Nat → Prop} {Pc : Nat → Nat → Prop} {cs ins a b tl o co bo : List Int32} {gl : Nat × (Nat → Nat → Prop)} {C : Nat → Int32} {qs qa qb : List Nat} {lo : Option Nat}
theorem bt_s (d w : Nat) (ms : List Nat) : bt d ((bsl + w) :: ms) = w := sh_bt (w := w) (ms := ms) [] d nilp
theorem tg_f (h1 : h0 ≤ X) (h2 : X ≤ 1000000) : uN (nI h0 + nI (X - h0)) = X := by
  rw [u_add (by rw [u_n (by omega), u_n (by omega)]; omega), u_n (by omega), u_n (by omega)]
  omega
/-- a jump that waited comes to X -/
theorem TI_q1 (ti : TI O (fun q => H q ∨ q = h0) nu R c) (hn : ¬ H h0) (hu : (u ≤ nu ∨ u = 41) ∧ u < 42) (hF : tcF c u ≤ w) (no : ¬ O h0) (noX : ¬ O X) (hX : tcD c X = some (u, 0, (bsl + w) :: mse, ρt)) (hD : tcD c h0 = some (u, 0, (bsl + w) :: ms, rk)) (hm : ∀ i, i ∈ mse → i ∈ ms) (hc : tcC c h0 = em 3 (nI (X - h0))) (h1 : h0 < X) (h2 : X ≤ tcN c) (h3 : ρt < rk) (h4 : rk ≤ RK) : TI O H nu R c := by
  have t36 := ti.1
  have rk40 : RK = 40000 := rfl
  refine TI_fi (h := h0) (ln := 1) ti (Nat.le_refl _) (Or.inr rfl) no (by omega) (fun _ _ => rfl) rfl hD (fun i y i1 i2 => absurd i1 (by omega)) (fun h' _ => by omega) (fun q => ⟨fun z => ⟨Or.inl z, fun e => hn (e ▸ z)⟩, fun z => z.1.elim id (fun e => absurd e z.2)⟩) ?_
  exact OKq_of (op := 3) (x := nI (X - h0)) hD no hu.2 (by omega) (by omega) (by decide) (Nat.le_refl _) (by rw [hc]; exact em_lo (by decide)) (by rw [hc]; exact em_hi (by decide) (Sm3_n (by omega))) (fun c' a _ _ => OKI_1 (by decide) ⟨fun z => absurd z (by omega), fun _ => by
    rw [tg_f (by omega) (by omega)]
    exact nx_of a hu.1 hX noX (Rsh_m0 hm) (by rw [bt_s]; exact hF) (by rw [bt_s]; exact hF) h3, fun z => absurd z (by omega), fun z => absurd z (by omega), fun z => absurd z (by omega)⟩)
/-- one that looks at a truth -/
theorem TI_f1 (ti : TI O (fun q => H q ∨ q = h0) nu R c) (hn : ¬ H h0) (hu : (u ≤ nu ∨ u = 41) ∧ u < 42) (hF : tcF c u ≤ w) (no : ¬ O h0) (no1 : ¬ O (h0 + 1)) (noX : ¬ O X) (hX : tcD c X = some (u, 0, (bsl + w) :: mse, ρt)) (hD : tcD c h0 = some (u, 1, (bsl + w) :: ms, rk)) (hD1 : tcD c (h0 + 1) = some (u, 0, (bsl + w) :: ms, k)) (hm : ∀ i, i ∈ mse → i ∈ ms) (hc : tcC c h0 = em 4 (nI (X - h0))) (h1 : h0 < X) (h2 : X ≤ tcN c) (h3 : ρt < rk) (h5 : k < rk) (h4 : rk ≤ RK) : TI O H nu R c := by
  have t36 := ti.1
  have rk40 : RK = 40000 := rfl
  refine TI_fi (h := h0) (ln := 1) ti (Nat.le_refl _) (Or.inr rfl) no (by omega) (fun _ _ => rfl) rfl hD (fun i y i1 i2 => absurd i1 (by omega)) (fun h' _ => by omega) (fun q => ⟨fun z => ⟨Or.inl z, fun e => hn (e ▸ z)⟩, fun z => z.1.elim id (fun e => absurd e z.2)⟩) ?_
  exact OKq_of (op := 4) (x := nI (X - h0)) hD no hu.2 (by omega) (by omega) (by decide) (Nat.le_refl _) (by rw [hc]; exact em_lo (by decide)) (by rw [hc]; exact em_hi (by decide) (Sm3_n (by omega))) (fun c' a _ _ => OKI_1 (by decide) ⟨fun z => absurd z (by omega), fun z => absurd z (by omega), fun _ => ⟨0, rfl, nx_of a hu.1 hD1 no1 (Rsh_r _ _) (by rw [bt_s]; exact hF) (by rw [bt_s]; exact hF) h5, by
    rw [tg_f (by omega) (by omega)]
    exact nx_of a hu.1 hX noX (Rsh_m0 hm) (by rw [bt_s]; exact hF) (by rw [bt_s]; exact hF) h3⟩, fun z => absurd z (by omega), fun z => absurd z (by omega)⟩)
/-- all quits come to X -/
theorem TI_qs (hu : (u ≤ nu ∨ u = 41) ∧ u < 42) (hF : tcF c u ≤ w) (noX : ¬ O X) (hX : tcD c X = some (u, 0, (bsl + w) :: mse, ρt)) (hm : ∀ i, i ∈ mse → i ∈ ms) (h2 : X ≤ tcN c) : ∀ (qs : List Nat) (H : Nat → Prop), TI O (fun q => H q ∨ ∃ h, h ∈ qs ∧ q = N0 + h) nu R c → (∀ h, h ∈ qs → ¬ H (N0 + h) ∧ ¬ O (N0 + h) ∧ N0 + h < X ∧ tcC c (N0 + h) = em 3 (nI (X - (N0 + h))) ∧ ∃ rk, ρt < rk ∧ rk ≤ RK ∧ tcD c (N0 + h) = some (u, 0, (bsl + w) :: ms, rk)) → qs.Pairwise (fun a b => ¬ a = b) → TI O H nu R c
  | [], H, ti, _, _ => TI_h ti (fun q => ⟨Or.inl, fun z => z.elim id (fun ⟨h, y, _⟩ => absurd y List.not_mem_nil)⟩)
  | h0 :: qs, H, ti, hq, pw => by
    rw [List.pairwise_cons] at pw
    obtain ⟨z1, z2, z3, z4, rk, z5, z6, z7⟩ := hq h0 List.mem_cons_self
    refine TI_qs hu hF noX hX hm h2 qs H (TI_q1 (h0 := N0 + h0) (H := fun q => H q ∨ ∃ h, h ∈ qs ∧ q = N0 + h) (TI_h ti (fun q => ?_)) (fun y => ?_) hu hF z2 noX hX z7 hm z4 z3 h2 z5 z6) (fun h hh => hq h (List.mem_cons_of_mem _ hh)) pw.2
    · constructor
      · rintro ((y | ⟨h, hh, y⟩) | y)
        · exact Or.inl y
        · exact Or.inr ⟨h, List.mem_cons_of_mem _ hh, y⟩
        · exact Or.inr ⟨h0, List.mem_cons_self, y⟩
      · rintro (y | ⟨h, hh, y⟩)
        · exact Or.inl (Or.inl y)
        · rcases List.mem_cons.1 hh with w' | w'
          · rw [w'] at y; exact Or.inr y
          · exact Or.inl (Or.inr ⟨h, w', y⟩)
    · rcases y with y | ⟨h, hh, y⟩
      · exact z1 y
      · exact pw.1 h hh (by omega)
/-- an instruction whose end is as one likes, as a hole -/
theorem TI_ho {y0 : Nat × Nat × List Nat × Nat} (ti : TI O H nu R c) (hN : tcN c + 1 ≤ 36864) (hC1 : ∀ i, i < tcN c → C i = tcC c i) (hR : R' ≤ R) : TI O (fun q => H q ∨ q = tcN c) nu R' (mkc c C (tcN c + 1) (up1 c 1 y0)) := TI_em (ln := 1) (y := some y0) (Hn := True) (On := False) ti (Nat.le_refl _) hN hC1 rfl ⟨⟨rfl, rfl⟩, rfl, rfl⟩ (fun q => rfl) (fun q => ⟨Or.inl, fun z => z.elim id (fun w => w.2.elim)⟩) (fun z => z.elim) (fun q => ⟨fun z => z.elim Or.inl (fun y => Or.inr ⟨y, trivial⟩), fun z => z.elim Or.inl (fun y => Or.inr y.1)⟩) (fun _ => trivial) (fun z => absurd trivial z) hR
/-- quit -/
theorem Stm_qu (hp : pl < 8388608) : Stm u gl Pc Vm w N lo Bd 1 [1] [em 0 (nI pl), x0] := by
  refine ⟨⟨fun h z => by rw [List.mem_singleton.1 z]; exact Nat.lt_succ_self 1, List.pairwise_singleton _ _⟩, fun O H nu R ρ c ms C ti eN no hD cn lp hR1 hR2 h2 hB hN hC1 hC2 => ?_⟩
  subst eN
  have rk40 : RK = 40000 := rfl
  have el : [em 0 (nI pl), x0].length = 2 := rfl
  rw [el] at hR1 hN hC2 ⊢
  have c0 : C (tcN c) = em 0 (nI pl) := hC2 0 (by omega) (by decide)
  have t1 := TI_bg (k := R) ti no hD cn hR2 (by omega) (by omega) (by omega) hC1 ⟨nI pl, Sm3_n hp, c0⟩
  have t2 := TI_ho (C := C) (y0 := (u, 0, (bsl + w) :: ms, ρ)) (R' := R - 2 - 1) t1 (by show tcN c + 1 + 1 ≤ _; omega) (fun _ _ => rfl) (by omega)
  refine ⟨_, TI_h t2 (fun q => ⟨fun z => z.elim Or.inl (fun ⟨h, y, e⟩ => Or.inr (by rw [List.mem_singleton.1 y] at e; exact e)), fun z => z.elim Or.inl (fun e => Or.inr ⟨1, List.mem_singleton.2 rfl, e⟩)⟩), fun q hq => ?_, up1_e (c := mkc c C (tcN c + 1) (up1 c 1 (u, 0, (bsl + w) :: ms, R))), fun h hh => ⟨R, by omega, hR2, ?_⟩⟩
  · rw [up1_o (by show ¬ q = tcN c + 1 + 1; omega)]; exact up1_o (by omega)
  · rw [List.mem_singleton.1 hh, up1_o (by show ¬ tcN c + 1 = tcN c + 1 + 1; omega)]
    exact up1_e
/-- continue -/
theorem Stm_co {P0 : Nat} (hl : lo = some P0) (hp : pl < 8388608) : Stm u gl Pc Vm w N lo Bd 1 [] [em 0 (nI pl), em 3 (nI P0 - nI (N + 1))] := by
  refine ⟨⟨fun h z => absurd z List.not_mem_nil, List.Pairwise.nil⟩, fun O H nu R ρ c ms C ti eN no hD cn lp hR1 hR2 h2 hB hN hC1 hC2 => ?_⟩
  subst eN
  have rk40 : RK = 40000 := rfl
  have el : [em 0 (nI pl), em 3 (nI P0 - nI (tcN c + 1))].length = 2 := rfl
  rw [el] at hR1 hN hC2 ⊢
  have c0 : C (tcN c) = em 0 (nI pl) := hC2 0 (by omega) List.not_mem_nil
  have c1 : C (tcN c + 1) = em 3 (nI P0 - nI (tcN c + 1)) := hC2 1 (by omega) List.not_mem_nil
  have t1 := TI_bg (k := R) ti no hD cn hR2 (by omega) (by omega) (by omega) hC1 ⟨nI pl, Sm3_n hp, c0⟩
  have dU1 : ∀ q y', tcD c q = some y' → up1 c 1 (u, 0, (bsl + w) :: ms, R) q = some y' := fun q y' e => up1_d ti (Nat.le_refl _) e
  obtain ⟨l1, l2, ms0, r0, l3, l4, l5⟩ := lp P0 hl
  have dU2 : ∀ q y', up1 c 1 (u, 0, (bsl + w) :: ms, R) q = some y' → up1 (mkc c C (tcN c + 1) (up1 c 1 (u, 0, (bsl + w) :: ms, R))) 1 (u, 0, (bsl + w) :: ms, ρ) q = some y' := fun q y' e => up1_d t1 (Nat.le_refl _) e
  have t2 : TI O H nu (R - 2 - 1) (mkc c C (tcN c + 1 + 1) (up1 (mkc c C (tcN c + 1) (up1 c 1 (u, 0, (bsl + w) :: ms, R))) 1 (u, 0, (bsl + w) :: ms, ρ))) := TI_s1 (c := mkc c C (tcN c + 1) (up1 c 1 (u, 0, (bsl + w) :: ms, R))) t1 (no _ (by show tcN c ≤ tcN c + 1; omega)) (Nat.le_refl _) (by show tcN c + 1 + 1 ≤ _; omega) (fun _ _ => rfl) (fun y ey => by
    have ey' : up1 c 1 (u, 0, (bsl + w) :: ms, R) (tcN c + 1) = some y := ey
    rw [up1_e] at ey'
    cases ey'
    refine OKq_of (op := 3) (x := nI P0 - nI (tcN c + 1)) (dU2 _ _ up1_e) (no _ (by show tcN c ≤ tcN c + 1; omega)) cn.1.2.1 (Nat.le_refl _) (by omega) (by decide) (Nat.le_refl _) (by show C (tcN c + 1) &&& 255 = _; rw [c1]; exact em_lo (by decide)) (by show C (tcN c + 1) >>> ((8 : Int32) &&& 31) = _; rw [c1]; exact em_hi (by decide) (Sm3_s (by omega) (by omega))) (fun c' a _ _ => OKI_1 (by decide) ⟨fun z => absurd z (by omega), fun _ => ?_, fun z => absurd z (by omega), fun z => absurd z (by omega), fun z => absurd z (by omega)⟩)
    have tg := tg_b (N := 0) (a := P0) (b := tcN c + 1) (by omega) (by omega)
    rw [Nat.zero_add, Nat.zero_add] at tg
    rw [tg]
    exact nx_of a cn.1.1 (dU2 _ _ (dU1 _ _ l5)) l2 (Rsh_m0 l3) (by rw [bt_s]; exact cn.1.2.2.1) (by rw [bt_s]; exact cn.1.2.2.1) (by omega)) (by omega)
  refine ⟨_, TI_h t2 (fun q => ⟨fun z => z.elim id (fun ⟨h, y, _⟩ => absurd y List.not_mem_nil), Or.inl⟩), fun q hq => ?_, up1_e (c := mkc c C (tcN c + 1) (up1 c 1 (u, 0, (bsl + w) :: ms, R))), fun h z => absurd z List.not_mem_nil⟩
  rw [up1_o (by show ¬ q = tcN c + 1 + 1; omega)]; exact up1_o (by omega)
/-- fail -/
theorem Stm_fa (hp : pl < 8388608) : Stm u gl Pc Vm w N lo Bd 1 [] [em 0 (nI pl), em 22 0] := by
  refine ⟨⟨fun h z => absurd z List.not_mem_nil, List.Pairwise.nil⟩, fun O H nu R ρ c ms C ti eN no hD cn lp hR1 hR2 h2 hB hN hC1 hC2 => ?_⟩
  subst eN
  have rk40 : RK = 40000 := rfl
  have el : [em 0 (nI pl), em 22 0].length = 2 := rfl
  rw [el] at hR1 hN hC2 ⊢
  have c0 : C (tcN c) = em 0 (nI pl) := hC2 0 (by omega) List.not_mem_nil
  have c1 : C (tcN c + 1) = em 22 0 := hC2 1 (by omega) List.not_mem_nil
  have t1 := TI_bg (k := 72 * (RK + 1)) ti no hD cn hR2 (Nat.le_refl _) (by omega) (by omega) hC1 ⟨nI pl, Sm3_n hp, c0⟩
  have dU2 : ∀ q y', up1 c 1 (u, 0, (bsl + w) :: ms, 72 * (RK + 1)) q = some y' → up1 (mkc c C (tcN c + 1) (up1 c 1 (u, 0, (bsl + w) :: ms, 72 * (RK + 1)))) 1 (u, 0, (bsl + w) :: ms, ρ) q = some y' := fun q y' e => up1_d t1 (Nat.le_refl _) e
  have t2 : TI O H nu (R - 2 - 1) (mkc c C (tcN c + 1 + 1) (up1 (mkc c C (tcN c + 1) (up1 c 1 (u, 0, (bsl + w) :: ms, 72 * (RK + 1)))) 1 (u, 0, (bsl + w) :: ms, ρ))) := TI_s1 (c := mkc c C (tcN c + 1) (up1 c 1 (u, 0, (bsl + w) :: ms, 72 * (RK + 1)))) t1 (no _ (by show tcN c ≤ tcN c + 1; omega)) (Nat.le_refl _) (by show tcN c + 1 + 1 ≤ _; omega) (fun _ _ => rfl) (fun y ey => by
    have ey' : up1 c 1 (u, 0, (bsl + w) :: ms, 72 * (RK + 1)) (tcN c + 1) = some y := ey
    rw [up1_e] at ey'
    cases ey'
    exact OKq_of (op := 22) (x := 0) (dU2 _ _ up1_e) (no _ (by show tcN c ≤ tcN c + 1; omega)) cn.1.2.1 (Nat.le_refl _) (Nat.le_refl _) (by decide) (Nat.le_refl _) (by show C (tcN c + 1) &&& 255 = _; rw [c1]; exact em_lo (by decide)) (by show C (tcN c + 1) >>> ((8 : Int32) &&& 31) = _; rw [c1]; exact em_hi (by decide) Sm3_0) (fun c' a _ _ => OKI_7 (by decide) ⟨fun z => absurd z (by decide), fun z => absurd z (by decide), fun z => absurd z (by decide), fun z => absurd z (by decide), fun z => absurd z (by decide), fun z => absurd z (by decide), fun z => absurd z (by decide), fun _ => ⟨tS_of a cn.1.1 cn.2.1.1, Nat.le_refl _⟩, fun z => absurd z (by omega), fun z => absurd z (by decide)⟩)) (by omega)
  refine ⟨_, TI_h t2 (fun q => ⟨fun z => z.elim id (fun ⟨h, y, _⟩ => absurd y List.not_mem_nil), Or.inl⟩), fun q hq => ?_, up1_e (c := mkc c C (tcN c + 1) (up1 c 1 (u, 0, (bsl + w) :: ms, 72 * (RK + 1)))), fun h z => absurd z List.not_mem_nil⟩
  rw [up1_o (by show ¬ q = tcN c + 1 + 1; omega)]; exact up1_o (by omega)
end CWJ
