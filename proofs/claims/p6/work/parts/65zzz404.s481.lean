/-! The class: rows of iters of fors, typed. -/
section CWO
variable {c c' c1 c2 : Ct} {O O' H H' : Nat → Prop} {u nu nu' pc ln R R' re p d d' rk k op w n m m' q t x y x1 x2 g s N N0 X h h0 Bd Bd' ns na nb pl ρ ρt β w2 Wc fi la cnt : Nat} {r r' pre ms ms' mse xm lm : List Nat} {x0 v y0 y1 wd : Int32} {Vm Vm' : Nat → Prop} {Pc : Nat → Nat → Prop} {cs cs2 ins a b tl o co bo : List Int32} {gl : Nat × (Nat → Nat → Prop)} {C : Nat → Int32} {qs qa qb es : List Nat} {lo ow : Option Nat}
/-- marks of names of a for -/
def vmL (a : Nat) : Nat → List Nat
  | 0 => []
  | k + 1 => (500000 + a + k) :: vmL a k
theorem vmL_m {a : Nat} : ∀ (k i : Nat), i ∈ vmL a k ↔ 500000 + a ≤ i ∧ i < 500000 + a + k
  | 0, i => ⟨fun h => absurd h List.not_mem_nil, fun h => absurd h.2 (by omega)⟩
  | k + 1, i => by
    show i ∈ (500000 + a + k) :: vmL a k ↔ _
    rw [List.mem_cons, vmL_m k i]
    omega
/-- what a for is laid in, with its slots and marks -/
theorem StC_f (cn : StC O u gl Pc Vm nu c w ms) (hw : w ≤ w2) (h2 : w2 ≤ 200) (hx : ∀ i, i ∈ xm → i < bsl ∧ w ≤ i % 500000 ∧ i % 500000 < w2) (hV : ∀ i, Vm' i → Vm i ∨ (i ∈ xm ∧ 500000 ≤ i ∧ ∀ s, i = 500000 + s → ¬ s ∈ xm)) (hv : ∀ s, Vm (500000 + s) → s < w) (hvm : ∀ i, Vm i → Vm' i) : StC O u gl Pc Vm' nu c w2 (xm ++ ms) := by
  obtain ⟨⟨b1, b2, b3, b4, b5, b6, b7, b8⟩, ⟨t1, t2, t3⟩, ⟨s1, s2⟩, p1, p2⟩ := cn
  refine ⟨⟨b1, b2, by omega, b4, b5, fun i hi hb => ?_, fun i hi => ?_, b8⟩, ⟨t1, t2, h2⟩, ⟨fun s hs hm z => ?_, fun i hi => ?_⟩, fun hu i hi => ?_, p2⟩
  · rcases List.mem_append.1 hi with z | z
    · have := (hx i z).1; omega
    · exact b6 i z hb
  · rcases hV i hi with z | z
    · exact List.mem_append_right _ (b7 i z)
    · exact List.mem_append_left _ z.1
  · rcases List.mem_append.1 z with y | y
    · rcases hV _ hm with v | v
      · have e := hx s y
        have := hv s v
        omega
      · exact v.2.2 s rfl y
    · rcases hV _ hm with v | v
      · exact s1 s hs v y
      · have e1 := (hx _ v.1).2.1
        have e2 := s2 s y
        omega
  · rcases List.mem_append.1 hi with y | y
    · exact (hx i y).2.2
    · have := s2 i y; omega
  · have z := p1 hu i hi
    exact ⟨z.1, hvm _ z.2⟩
/-- a row of iters, so far: Wc slots in use, m iters; the first NEXT and the last; marks -/
def FRw (u : Nat) (gl : Nat × (Nat → Nat → Prop)) (Pc : Nat → Nat → Prop) (Vm : Nat → Prop) (w N Wc m fi la : Nat) (xm lm : List Nat) (cs : List Int32) : Prop := (w ≤ Wc ∧ (2 ≤ cs.length ∧ (m = 0 → xm = [])) ∧ (1 ≤ m → fi + 2 ≤ cs.length ∧ la + 2 ≤ cs.length ∧ fi ≤ la)) ∧ (∀ i, i ∈ xm → i < bsl ∧ w ≤ i % 500000 ∧ i % 500000 < Wc) ∧ (∀ i, i ∈ lm → i ∈ xm) ∧ ∀ (O H : Nat → Prop) (nu R ρ β w2 : Nat) (c : Ct) (ms : List Nat) (C : Nat → Int32), TI O H nu R c → tcN c = N → (∀ q, N ≤ q → ¬ O q) → tcD c N = some (u, 0, (bsl + w) :: ms, ρ) → StC O u gl Pc Vm nu c w ms → 1000 + cs.length ≤ R → R ≤ RK → ρ ≤ 999 → β + m ≤ 999 → Wc ≤ w2 → w2 ≤ 200 → N + cs.length ≤ 36864 → (∀ i, i < N → C i = tcC c i) → (∀ i, i < cs.length → ¬ i = 1 → (1 ≤ m → ¬ i = fi + 1) → C (N + i) = cs.getD i 0) → C (N + 1) = em 42 (nI (w2 - w)) → ∀ re, re ≤ R - cs.length → ∃ D, TI O (fun q => H q ∨ (1 ≤ m ∧ q = N + fi)) nu (R - cs.length) (mkc c C (N + cs.length) D) ∧ (∀ q, q ≤ N → D q = tcD c q) ∧ D (N + cs.length) = some (u, 0, (bsl + w2) :: (xm ++ ms), re) ∧ (1 ≤ m → (∃ n1, (C (N + fi) = em 70 (nI n1) ∧ w ≤ n1 ∧ n1 + 1 < Wc) ∧ D (N + fi) = some (u, 0, (bsl + w2) :: (n1 :: ([] ++ ms)), β + 1) ∧ D (N + fi + 1) = none ∧ ∃ rk, rk ≤ RK ∧ D (N + fi + 2) = some (u, 1, (bsl + w2) :: (n1 :: ([] ++ ms)), rk)) ∧ D (N + la) = some (u, 0, (bsl + w2) :: (lm ++ ms), β + m))
theorem StC_v (cn : StC O u gl Pc Vm nu c w ms) : ∀ s, Vm (500000 + s) → s < w := fun s hs => by
  have bs : bsl = 1000000 := rfl
  have z := cn.1.2.2.2.2.2.2.1 _ hs
  have z1 := st_bs cn _ z
  have z2 := cn.2.2.1.2 _ z
  omega
/-- BEGIN, OPEN -/
theorem FRw_0 (hp : pl < 8388608) : FRw u gl Pc Vm w N w 0 0 0 [] [] [em 0 (nI pl), x0] := by
  refine ⟨⟨Nat.le_refl _, ⟨Nat.le_refl _, fun _ => rfl⟩, fun z => absurd z (by decide)⟩, fun i h => absurd h List.not_mem_nil, fun i h => absurd h List.not_mem_nil, fun O H nu R ρ β w2 c ms C ti eN no hD cn hR1 hR2 hρ hβ hw hw2 hN hC1 hC2 hC3 re hre => ?_⟩
  subst eN
  have rk40 : RK = 40000 := rfl
  have el : [em 0 (nI pl), x0].length = 2 := rfl
  rw [el] at hR1 hN hC2 hre ⊢
  have c0 : C (tcN c) = em 0 (nI pl) := hC2 0 (by omega) (by decide) (fun z => absurd z (by decide))
  have t1 := TI_bg (k := R) ti no hD cn hR2 (by omega) (by omega) (by omega) hC1 ⟨nI pl, Sm3_n hp, c0⟩
  have dU1 : ∀ q y', tcD c q = some y' → up1 c 1 (u, 0, (bsl + w) :: ms, R) q = some y' := fun q y' e => up1_d ti (Nat.le_refl _) e
  have dU2 : ∀ q y', up1 c 1 (u, 0, (bsl + w) :: ms, R) q = some y' → up1 (mkc c C (tcN c + 1) (up1 c 1 (u, 0, (bsl + w) :: ms, R))) 1 (u, 0, (bsl + w2) :: ms, re) q = some y' := fun q y' e => up1_d t1 (Nat.le_refl _) e
  have hF := cn.1.2.2.1
  have t2 : TI O H nu (R - 2) (mkc c C (tcN c + 1 + 1) (up1 (mkc c C (tcN c + 1) (up1 c 1 (u, 0, (bsl + w) :: ms, R))) 1 (u, 0, (bsl + w2) :: ms, re))) := TI_s1 (c := mkc c C (tcN c + 1) (up1 c 1 (u, 0, (bsl + w) :: ms, R))) t1 (no _ (by show tcN c ≤ tcN c + 1; omega)) (Nat.le_refl _) (by show tcN c + 1 + 1 ≤ _; omega) (fun _ _ => rfl) (fun y ey => by
    have ey' : up1 c 1 (u, 0, (bsl + w) :: ms, R) (tcN c + 1) = some y := ey
    rw [up1_e] at ey'
    cases ey'
    have ue : up1 (mkc c C (tcN c + 1) (up1 c 1 (u, 0, (bsl + w) :: ms, R))) 1 (u, 0, (bsl + w2) :: ms, re) (tcN c + 1 + 1) = some (u, 0, (bsl + w2) :: ms, re) := up1_e (c := mkc c C (tcN c + 1) (up1 c 1 (u, 0, (bsl + w) :: ms, R)))
    exact OKq_of (op := 42) (x := nI (w2 - w)) (dU2 _ _ up1_e) (no _ (by show tcN c ≤ tcN c + 1; omega)) cn.1.2.1 (Nat.le_refl _) (by omega) (by decide) (Nat.le_refl _) (by show C (tcN c + 1) &&& 255 = _; rw [hC3]; exact em_lo (by decide)) (by show C (tcN c + 1) >>> ((8 : Int32) &&& 31) = _; rw [hC3]; exact em_hi (by decide) (Sm3_n (by omega))) (fun c' a hc ro => OKI_2 (by decide) ⟨fun z => absurd z (by decide), fun z => absurd z (by decide), fun z => absurd z (by decide), fun z => absurd z (by decide), fun z => absurd z (by decide), fun z => absurd z (by decide), fun z => absurd z (by decide), fun z => absurd z (by decide), fun z => absurd z (by decide), fun _ => by
      rw [u_n (by omega)]
      have rs := Rsh_ms (d := 0) (w := w) (n := w2 - w) (ms := ms) (ms' := ms) (fun i h => h)
      rw [show w + (w2 - w) = w2 by omega] at rs
      exact ⟨by omega, nx_of a cn.1.1 ue (no _ (by show tcN c ≤ tcN c + 1 + 1; omega)) rs (by rw [bt_s]; exact Nat.le_trans hF hw) (by rw [bt_s]; exact hF) (by omega)⟩, fun z => absurd z (by omega)⟩)) (by omega)
  refine ⟨_, TI_h t2 (fun q => ⟨fun z => z.elim id (fun y => absurd y.1 (by decide)), Or.inl⟩), fun q hq => ?_, up1_e (c := mkc c C (tcN c + 1) (up1 c 1 (u, 0, (bsl + w) :: ms, R))), fun z => absurd z (by decide)⟩
  rw [up1_o (by show ¬ q = tcN c + 1 + 1; omega)]; exact up1_o (by omega)
end CWO
