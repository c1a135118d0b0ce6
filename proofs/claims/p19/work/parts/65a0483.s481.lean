section JnS481
/-! The class: rows of iters of fors, typed. -/
section CWO
variable {c c' c1 c2 : Ct} {O O' H H' : Nat → Prop} {u nu nu' pc ln R R' re p d d' rk k op w n m m' q t x y x1 x2 g s N N0 X h h0 Bd Bd' ns na nb pl ρ ρt β w2 Wc fi la cnt : Nat} {r r' pre ms ms' mse xm lm : List Nat} {x0 v y0 y1 wd : Int32} {Vm Vm' : Nat → Prop} {Pc : Nat → Nat → Prop} {cs cs2 ins a b tl o co bo : List Int32} {gl : Nat × (Nat → Nat → Prop)} {C : Nat → Int32} {qs qa qb es : List Nat} {lo ow : Option Nat}
/-- marks of names of a for -/
def vmL (a : Nat) : Nat → List Nat
  | 0 => []
  | k + 1 => (500000 + a + k) :: vmL a k
theorem vmL_m {a : Nat} : ∀ (k i : Nat), i ∈ vmL a k ↔ 500000 + a ≤ i ∧ i < 500000 + a + k
  | 0, i => ⟨fun h => absurd h List.not_mem_nil, fun h => absurd h.2 (by omega)⟩
  | k + 1, i => by
    show i ∈ (500000 + a + k) :: vmL a k ↔ _
    rw [List.mem_cons, vmL_m k i]
    omega
/-- what a for is laid in, with its slots and marks -/
theorem StC_f (cn : StC O u gl Pc Vm nu c w ms) (hw : w ≤ w2) (h2 : w2 ≤ 200) (hx : ∀ i, i ∈ xm → i < bsl ∧ w ≤ i % 500000 ∧ i % 500000 < w2) (hV : ∀ i, Vm' i → Vm i ∨ (i ∈ xm ∧ 500000 ≤ i ∧ ∀ s, i = 500000 + s → ¬ s ∈ xm)) (hv : ∀ s, Vm (500000 + s) → s < w) (hvm : ∀ i, Vm i → Vm' i) : StC O u gl Pc Vm' nu c w2 (xm ++ ms) := by
  obtain ⟨⟨b1, b2, b3, b4, b5, b6, b7, b8⟩, ⟨t1, t2, t3⟩, ⟨s1, s2⟩, p1, p2⟩ := cn
  refine ⟨⟨b1, b2, by omega, b4, b5, fun i hi hb => ?_, fun i hi => ?_, b8⟩, ⟨t1, t2, h2⟩, ⟨fun s hs hm z => ?_, fun i hi => ?_⟩, fun hu i hi => ?_, p2⟩
  · rcases List.mem_append.1 hi with z | z
    · have := (hx i z).1; omega
    · exact b6 i z hb
  · rcases hV i hi with z | z
    · exact List.mem_append_right _ (b7 i z)
    · exact List.mem_append_left _ z.1
  · rcases List.mem_append.1 z with y | y
    · rcases hV _ hm with v | v
      · have e := hx s y
        have := hv s v
        omega
      · exact v.2.2 s rfl y
    · rcases hV _ hm with v | v
      · exact s1 s hs v y
      · have e1 := (hx _ v.1).2.1
        have e2 := s2 s y
        omega
  · rcases List.mem_append.1 hi with y | y
    · exact (hx i y).2.2
    · have := s2 i y; omega
  · have z := p1 hu i hi
    exact ⟨z.1, hvm _ z.2⟩
/-- a row of iters, so far: Wc slots in use, m iters; the first NEXT and the last; marks -/
def FRw (u : Nat) (gl : Nat × (Nat → Nat → Prop)) (Pc : Nat → Nat → Prop) (Vm : Nat → Prop) (w N Wc m fi la : Nat) (xm lm : List Nat) (cs : List Int32) : Prop := (w ≤ Wc ∧ (2 ≤ cs.length ∧ (m = 0 → xm = [])) ∧ (1 ≤ m → fi + 2 ≤ cs.length ∧ la + 2 ≤ cs.length ∧ fi ≤ la)) ∧ (∀ i, i ∈ xm → i < bsl ∧ w ≤ i % 500000 ∧ i % 500000 < Wc) ∧ (∀ i, i ∈ lm → i ∈ xm) ∧ ∀ (O H : Nat → Prop) (nu R ρ β w2 : Nat) (c : Ct) (ms : List Nat) (C : Nat → Int32), TI O H nu R c → tcN c = N → (∀ q, N ≤ q → ¬ O q) → tcD c N = some (u, 0, (bsl + w) :: ms, ρ) → StC O u gl Pc Vm nu c w ms → 1000 + cs.length ≤ R → R ≤ RK → ρ ≤ 999 → β + m ≤ 999 → Wc ≤ w2 → w2 ≤ 200 → N + cs.length ≤ 36864 → (∀ i, i < N → C i = tcC c i) → (∀ i, i < cs.length → ¬ i = 1 → (1 ≤ m → ¬ i = fi + 1) → C (N + i) = cs.getD i 0) → C (N + 1) = em 42 (nI (w2 - w)) → ∀ re, re ≤ R - cs.length → ∃ D, TI O (fun q => H q ∨ (1 ≤ m ∧ q = N + fi)) nu (R - cs.length) (mkc c C (N + cs.length) D) ∧ (∀ q, q ≤ N → D q = tcD c q) ∧ D (N + cs.length) = some (u, 0, (bsl + w2) :: (xm ++ ms), re) ∧ (1 ≤ m → (∃ n1, (C (N + fi) = em 70 (nI n1) ∧ w ≤ n1 ∧ n1 + 1 < Wc) ∧ D (N + fi) = some (u, 0, (bsl + w2) :: (n1 :: ([] ++ ms)), β + 1) ∧ D (N + fi + 1) = none ∧ ∃ rk, rk ≤ RK ∧ D (N + fi + 2) = some (u, 1, (bsl + w2) :: (n1 :: ([] ++ ms)), rk)) ∧ D (N + la) = some (u, 0, (bsl + w2) :: (lm ++ ms), β + m))
theorem StC_v (cn : StC O u gl Pc Vm nu c w ms) : ∀ s, Vm (500000 + s) → s < w := fun s hs => by
  have bs : bsl = 1000000 := rfl
  have z := cn.1.2.2.2.2.2.2.1 _ hs
  have z1 := st_bs cn _ z
  have z2 := cn.2.2.1.2 _ z
  omega
/-- BEGIN, OPEN -/
theorem FRw_0 (hp : pl < 8388608) : FRw u gl Pc Vm w N w 0 0 0 [] [] [em 0 (nI pl), x0] := by
  refine ⟨⟨Nat.le_refl _, ⟨Nat.le_refl _, fun _ => rfl⟩, fun z => absurd z (by decide)⟩, fun i h => absurd h List.not_mem_nil, fun i h => absurd h List.not_mem_nil, fun O H nu R ρ β w2 c ms C ti eN no hD cn hR1 hR2 hρ hβ hw hw2 hN hC1 hC2 hC3 re hre => ?_⟩
  subst eN
  have rk40 : RK = 40000 := rfl
  have el : [em 0 (nI pl), x0].length = 2 := rfl
  rw [el] at hR1 hN hC2 hre ⊢
  have c0 : C (tcN c) = em 0 (nI pl) := hC2 0 (by omega) (by decide) (fun z => absurd z (by decide))
  have t1 := TI_bg (k := R) ti no hD cn hR2 (by omega) (by omega) (by omega) hC1 ⟨nI pl, Sm3_n hp, c0⟩
  have dU1 : ∀ q y', tcD c q = some y' → up1 c 1 (u, 0, (bsl + w) :: ms, R) q = some y' := fun q y' e => up1_d ti (Nat.le_refl _) e
  have dU2 : ∀ q y', up1 c 1 (u, 0, (bsl + w) :: ms, R) q = some y' → up1 (mkc c C (tcN c + 1) (up1 c 1 (u, 0, (bsl + w) :: ms, R))) 1 (u, 0, (bsl + w2) :: ms, re) q = some y' := fun q y' e => up1_d t1 (Nat.le_refl _) e
  have hF := cn.1.2.2.1
  have t2 : TI O H nu (R - 2) (mkc c C (tcN c + 1 + 1) (up1 (mkc c C (tcN c + 1) (up1 c 1 (u, 0, (bsl + w) :: ms, R))) 1 (u, 0, (bsl + w2) :: ms, re))) := TI_s1 (c := mkc c C (tcN c + 1) (up1 c 1 (u, 0, (bsl + w) :: ms, R))) t1 (no _ (by show tcN c ≤ tcN c + 1; omega)) (Nat.le_refl _) (by show tcN c + 1 + 1 ≤ _; omega) (fun _ _ => rfl) (fun y ey => by
    have ey' : up1 c 1 (u, 0, (bsl + w) :: ms, R) (tcN c + 1) = some y := ey
    rw [up1_e] at ey'
    cases ey'
    have ue : up1 (mkc c C (tcN c + 1) (up1 c 1 (u, 0, (bsl + w) :: ms, R))) 1 (u, 0, (bsl + w2) :: ms, re) (tcN c + 1 + 1) = some (u, 0, (bsl + w2) :: ms, re) := up1_e (c := mkc c C (tcN c + 1) (up1 c 1 (u, 0, (bsl + w) :: ms, R)))
    exact OKq_of (op := 42) (x := nI (w2 - w)) (dU2 _ _ up1_e) (no _ (by show tcN c ≤ tcN c + 1; omega)) cn.1.2.1 (Nat.le_refl _) (by omega) (by decide) (Nat.le_refl _) (by show C (tcN c + 1) &&& 255 = _; rw [hC3]; exact em_lo (by decide)) (by show C (tcN c + 1) >>> ((8 : Int32) &&& 31) = _; rw [hC3]; exact em_hi (by decide) (Sm3_n (by omega))) (fun c' a hc ro => OKI_2 (by decide) ⟨fun z => absurd z (by decide), fun z => absurd z (by decide), fun z => absurd z (by decide), fun z => absurd z (by decide), fun z => absurd z (by decide), fun z => absurd z (by decide), fun z => absurd z (by decide), fun z => absurd z (by decide), fun z => absurd z (by decide), fun _ => by
      rw [u_n (by omega)]
      have rs := Rsh_ms (d := 0) (w := w) (n := w2 - w) (ms := ms) (ms' := ms) (fun i h => h)
      rw [show w + (w2 - w) = w2 by omega] at rs
      exact ⟨by omega, nx_of a cn.1.1 ue (no _ (by show tcN c ≤ tcN c + 1 + 1; omega)) rs (by rw [bt_s]; exact Nat.le_trans hF hw) (by rw [bt_s]; exact hF) (by omega)⟩, fun z => absurd z (by omega)⟩)) (by omega)
  refine ⟨_, TI_h t2 (fun q => ⟨fun z => z.elim id (fun y => absurd y.1 (by decide)), Or.inl⟩), fun q hq => ?_, up1_e (c := mkc c C (tcN c + 1) (up1 c 1 (u, 0, (bsl + w) :: ms, R))), fun z => absurd z (by decide)⟩
  rw [up1_o (by show ¬ q = tcN c + 1 + 1; omega)]; exact up1_o (by omega)
end CWO
end JnS481
section JnS482
/-! The class: one iter more of a for, typed. -/
section CWP
variable {c c' c1 c2 : Ct} {O O' H H' : Nat → Prop} {u nu nu' pc ln R R' re p d d' rk k op w n m m' q t x y x1 x2 g s N N0 X h h0 Bd Bd' ns na nb pl ρ ρt β w2 Wc fi la cnt a : Nat} {r r' pre ms ms' mse xm lm : List Nat} {x0 v y0 y1 wd : Int32} {Vm Vm' : Nat → Prop} {Pc : Nat → Nat → Prop} {cs cs2 ins tl o co bo : List Int32} {gl : Nat × (Nat → Nat → Prop)} {C : Nat → Int32} {qs qa qb es : List Nat} {lo ow : Option Nat}
/-- the names of a for's iter -/
def FNm (a cnt : Nat) (ins : List Int32) : Prop := 1 ≤ cnt ∧ ((cnt = 1 ∧ ins = [em 71 (nI a)]) ∨ ins = [em 72 (nI a), nI cnt])
theorem FNm_l (h : FNm a cnt ins) : 1 ≤ ins.length ∧ ins.length ≤ 2 := by
  rcases h.2 with ⟨_, e⟩ | e
  · rw [e]; exact ⟨Nat.le_refl _, by show 1 ≤ 2; decide⟩
  · rw [e]; exact ⟨by show 1 ≤ 2; decide, Nat.le_refl _⟩
/-- FOR_NAME, FOR_NAMES -/
theorem Is_fn {w2 : Nat} (hre : re ≤ R - ins.length) (hn : FNm a cnt ins) (ti : TI O H nu R c) (no : ∀ q, tcN c ≤ q → ¬ O q) (hD : tcD c (tcN c) = some (u, 1, (bsl + w2) :: ms, R)) (cn : StC O u gl Pc Vm nu c w2 ms) (h1 : a + cnt ≤ w2) (h2 : ∀ i, i ∈ ms → ¬ (a ≤ i ∧ i < a + cnt)) (hR1 : 1000 + ins.length ≤ R) (hR2 : R ≤ RK) (hN : tcN c + ins.length ≤ 36864) (hC1 : ∀ i, i < tcN c → C i = tcC c i) (hC2 : ∀ i, i < ins.length → C (tcN c + i) = ins.getD i 0) : TI O H nu (R - ins.length) (mkc c C (tcN c + ins.length) (up1 c ins.length (u, 0, (bsl + w2) :: (vmL a cnt ++ ms), re))) := by
  have hl := FNm_l hn
  have hc1 := hn.1
  have w200 := cn.2.1.2.2
  have hF := cn.1.2.2.1
  have rk40 : RK = 40000 := rfl
  have dU : ∀ q y', tcD c q = some y' → up1 c ins.length (u, 0, (bsl + w2) :: (vmL a cnt ++ ms), re) q = some y' := fun q y' e => up1_d ti hl.1 e
  refine TI_s1 ti (no _ (Nat.le_refl _)) hl.1 hN hC1 (fun y ey => ?_) (Nat.sub_le _ _)
  rw [hD] at ey
  cases ey
  have nxt : ∀ c' : Ct, CtG O u nu (mkc c C (tcN c + ins.length) (up1 c ins.length (u, 0, (bsl + w2) :: (vmL a cnt ++ ms), re))) c' → Nx c' (tcN c + ins.length) u 0 ((bsl + w2) :: (vmL a cnt ++ ms)) R := fun c' a' => nx_of a' cn.1.1 up1_e (no _ (by omega)) (Rsh_r _ _) (by rw [bt_s]; exact hF) (by rw [bt_s]; exact hF) (by omega)
  rcases hn.2 with ⟨e1, e2⟩ | e2
  · subst e2
    subst e1
    have c0 : C (tcN c) = em 71 (nI a) := hC2 0 (by omega)
    exact OKq_of (op := 71) (x := nI a) (dU _ _ hD) (no _ (Nat.le_refl _)) cn.1.2.1 (Nat.le_refl _) (by omega) (by decide) (Nat.le_refl _) (by show C (tcN c) &&& 255 = _; rw [c0]; exact em_lo (by decide)) (by show C (tcN c) >>> ((8 : Int32) &&& 31) = _; rw [c0]; exact em_hi (by decide) (Sm3_n (by omega))) (fun c' a' hc ro => OKI_4 (by decide) ⟨by decide, by rw [u_n (by omega)]; omega, by
      rw [u_n (by omega)]
      exact ⟨fun z => absurd z (by decide), fun z => absurd z (by decide), fun z => absurd z (by decide), fun z => absurd z (by decide), fun z => absurd z (by decide), fun _ => ⟨tS_of a' cn.1.1 cn.2.1.1, sh_slb (w := w2) (ms := ms) []⟩, fun z => absurd z (by decide), fun z => absurd z (by decide), fun _ => ⟨0, (bsl + w2) :: (vmL a 1 ++ ms), rfl, by rw [tF_of a' cn.1.1, bt_s]; exact hF, by rw [bt_s]; omega, shAll (w := w2) (ms := ms) [] nilp (fun i hi e => h2 i hi (by omega)), sh_mrl (w := w2) (ms := ms) [] nilp (fun i hi => by
        rcases List.mem_append.1 hi with z | z
        · rw [vmL_m] at z; exact Or.inr (by omega)
        · exact Or.inl z), nxt c' a'⟩, fun z => absurd z (by decide), fun z => absurd z (by decide)⟩⟩)
  · subst e2
    have c0 : C (tcN c) = em 72 (nI a) := hC2 0 (by show 0 < 2; decide)
    have c1 : C (tcN c + 1) = nI cnt := hC2 1 (by show 1 < 2; decide)
    exact OKq_of (op := 72) (x := nI a) (dU _ _ hD) (no _ (Nat.le_refl _)) cn.1.2.1 (by show tcN c + 1 ≤ tcN c + 2; omega) (by omega) (by decide) (by show 1 ≤ 2; decide) (by show C (tcN c) &&& 255 = _; rw [c0]; exact em_lo (by decide)) (by show C (tcN c) >>> ((8 : Int32) &&& 31) = _; rw [c0]; exact em_hi (by decide) (Sm3_n (by omega))) (fun c' a' hc ro => OKI_4 (by decide) ⟨by decide, by rw [u_n (by omega)]; omega, by
      have c1' : tcC c' (tcN c + 1) = nI cnt := (hc (tcN c + 1) (by omega) (by show tcN c + 1 < tcN c + 2; omega)).trans c1
      have n1 : tcN c + 2 ≤ tcN c' := a'.1
      rw [u_n (by omega)]
      exact ⟨fun z => absurd z (by decide), fun z => absurd z (by decide), fun z => absurd z (by decide), fun z => absurd z (by decide), fun z => absurd z (by decide), fun _ => ⟨tS_of a' cn.1.1 cn.2.1.1, sh_slb (w := w2) (ms := ms) []⟩, fun z => absurd z (by decide), fun z => absurd z (by decide), fun z => absurd z (by decide), fun _ => ⟨0, (bsl + w2) :: (vmL a cnt ++ ms), rfl, by rw [tF_of a' cn.1.1, bt_s]; exact hF, by omega, by rw [c1', u_n (by omega), bt_s]; exact h1, by rw [c1', u_n (by omega)]; exact shAll (w := w2) (ms := ms) [] nilp (fun i hi => h2 i hi), by
        rw [c1', u_n (by omega)]
        exact sh_mrl (w := w2) (ms := ms) [] nilp (fun i hi => by
          rcases List.mem_append.1 hi with z | z
          · rw [vmL_m] at z; exact Or.inr z
          · exact Or.inl z), nxt c' a'⟩, fun z => absurd z (by decide)⟩⟩)
theorem sub4 (R a b d : Nat) : R - (a + b + 3 + d) = R - a - b - 3 - d := by omega
theorem FRw_ad (k : FRw u gl Pc Vm w N Wc m fi la xm lm cs) (hV : ∀ i, Vm' i → Vm i ∨ (i ∈ xm ∧ 500000 ≤ i ∧ ∀ s, i = 500000 + s → ¬ s ∈ xm)) (hvm : ∀ i, Vm i → Vm' i) (g : Sgm u 0 gl Vm' 1 o) (hn : FNm Wc cnt ins) (hq : Wc + cnt + 2 ≤ 200) (hw : 1 ≤ m → wd = nI la - nI (cs.length + o.length + 1)) : FRw u gl Pc Vm w N (Wc + cnt + 2) (m + 1) (if m = 0 then cs.length + o.length + 1 else fi) (cs.length + o.length + 1) (vmL Wc cnt ++ (Wc + cnt) :: xm) ((Wc + cnt) :: xm) (cs ++ (o ++ (em 69 (nI (Wc + cnt)) :: em 70 (nI (Wc + cnt)) :: wd :: ins))) := by
  obtain ⟨⟨k1, ⟨k2, k2'⟩, k3⟩, kx, kl', kk⟩ := k
  obtain ⟨g1, g2⟩ := g
  have hl := FNm_l hn
  have hc1 := hn.1
  have bs : bsl = 1000000 := rfl
  have rk40 : RK = 40000 := rfl
  have el : (cs ++ (o ++ (em 69 (nI (Wc + cnt)) :: em 70 (nI (Wc + cnt)) :: wd :: ins))).length = cs.length + o.length + 3 + ins.length := by
    rw [List.length_append, List.length_append, List.length_cons, List.length_cons, List.length_cons]; omega
  have fi2 : (if m = 0 then cs.length + o.length + 1 else fi) + 2 ≤ cs.length + o.length + 3 ∧ (if m = 0 then cs.length + o.length + 1 else fi) ≤ cs.length + o.length + 1 := by
    by_cases z : m = 0
    · rw [if_pos z]; omega
    · rw [if_neg z]; have := k3 (by omega); omega
  refine ⟨⟨by omega, ⟨by rw [el]; omega, fun z => absurd z (by omega)⟩, fun _ => ⟨by rw [el]; omega, by rw [el]; omega, fi2.2⟩⟩, fun i hi => ?_, fun i hi => List.mem_append_right _ hi, fun O H nu R ρ β w2 c ms C ti eN no hD cn hR1 hR2 hρ hβ hw1 hw2 hN hC1 hC2 hC3 re hre => ?_⟩
  · rcases List.mem_append.1 hi with z | z
    · rw [vmL_m] at z; omega
    · rcases List.mem_cons.1 z with y | y
      · omega
      · have := kx i y; omega
  rw [el] at hR1 hN hC2 hre ⊢
  have hF := cn.1.2.2.1
  -- which places are told
  have cc : ∀ i, i < cs.length + o.length + 3 + ins.length → ¬ i = 1 → ¬ i = (if m = 0 then cs.length + o.length + 1 else fi) + 1 → C (N + i) = (cs ++ (o ++ (em 69 (nI (Wc + cnt)) :: em 70 (nI (Wc + cnt)) :: wd :: ins))).getD i 0 := fun i h1 h2 h3 => hC2 i h1 h2 (fun _ => h3)
  have f0 : ∀ i, i < cs.length + o.length + 2 → ¬ (1 ≤ m ∧ i = fi + 1) → ¬ i = (if m = 0 then cs.length + o.length + 1 else fi) + 1 := fun i h1 h2 h3 => by
    by_cases z : m = 0
    · rw [if_pos z] at h3; omega
    · rw [if_neg z] at h3; exact h2 ⟨by omega, h3⟩
  have f1 : ∀ i, cs.length ≤ i → i < cs.length + o.length + 2 → ¬ i = (if m = 0 then cs.length + o.length + 1 else fi) + 1 := fun i h1 h2 => f0 i h2 (fun z => by have := k3 z.1; omega)
  have cE : ∀ i, i < o.length → C (N + cs.length + i) = o.getD i 0 := fun i hi => by
    rw [Nat.add_assoc, cc (cs.length + i) (by omega) (by omega) (f1 _ (by omega) (by omega)), gd_r, gd_l hi]
  have c69 : C (N + cs.length + o.length) = em 69 (nI (Wc + cnt)) := by
    rw [show N + cs.length + o.length = N + (cs.length + (o.length + 0)) by omega, cc _ (by omega) (by omega) (f1 _ (by omega) (by omega)), gd_r, gd_r]; rfl
  have c70 : C (N + cs.length + o.length + 1) = em 70 (nI (Wc + cnt)) := by
    rw [show N + cs.length + o.length + 1 = N + (cs.length + (o.length + 1)) by omega, cc _ (by omega) (by omega) (f1 _ (by omega) (by omega)), gd_r, gd_r]; rfl
  have cW : 1 ≤ m → C (N + cs.length + o.length + 1 + 1) = wd := fun hm => by
    rw [show N + cs.length + o.length + 1 + 1 = N + (cs.length + (o.length + 2)) by omega, cc _ (by omega) (by omega) (by rw [if_neg (by omega)]; have := k3 hm; omega), gd_r, gd_r]; rfl
  have cI : ∀ i, i < ins.length → C (N + cs.length + o.length + 3 + i) = ins.getD i 0 := fun i hi => by
    rw [show N + cs.length + o.length + 3 + i = N + (cs.length + (o.length + (i + 3))) by omega, cc _ (by omega) (by omega) (by
      by_cases z : m = 0
      · rw [if_pos z]; omega
      · rw [if_neg z]; have := k3 (by omega); omega), gd_r, gd_r]; rfl
  -- the row so far
  obtain ⟨D1, t1, e1, e2, e3⟩ := kk O H nu R ρ β w2 c ms C ti eN no hD cn (by omega) hR2 hρ (by omega) (by omega) hw2 (by omega) hC1 (fun i hi h1 h2 => by
    rw [cc i (by omega) h1 (f0 i (by omega) (fun z => h2 z.1 z.2)), gd_l hi]) hC3 (R - cs.length) (Nat.le_refl _)
  have dU1 : ∀ q y', tcD c q = some y' → D1 q = some y' := fun q y' e => dd_of ti (fun q hq => e1 q (by omega)) q y' e
  have noq : ∀ q, N ≤ q → ¬ O q := no
  have xb : ∀ i, i ∈ xm → i < bsl ∧ w ≤ i % 500000 ∧ i % 500000 < w2 := fun i hi => by have := kx i hi; omega
  have cn1 : StC O u gl Pc Vm' nu c w2 (xm ++ ms) := StC_f cn (by omega) hw2 xb hV (StC_v cn) hvm
  have u42 := cn.1.2.1
  -- its exp
  obtain ⟨D2, t2, e4, e5⟩ := g2 O (fun q => H q ∨ (1 ≤ m ∧ q = N + fi)) nu (R - cs.length) (mkc c C (N + cs.length) D1) 0 [] w2 (xm ++ ms) C t1 (no _ (by show N ≤ N + cs.length; omega)) e2 nilp (CnC_k cn1.1 dU1) (by omega) (by omega) (by omega) (by show N + cs.length + o.length ≤ _; omega) (fun _ _ => rfl) cE
  have e5' : D2 (N + cs.length + o.length) = some (u, 1, (bsl + w2) :: (xm ++ ms), R - cs.length - o.length) := e5
  have t2' : TI O (fun q => H q ∨ (1 ≤ m ∧ q = N + fi)) nu (R - cs.length - o.length) (mkc c C (N + cs.length + o.length) D2) := t2
  have dU2 : ∀ q y', D1 q = some y' → D2 q = some y' := fun q y' e => dd_of t1 e4 q y' e
  have dU02 : ∀ q y', tcD c q = some y' → D2 q = some y' := fun q y' e => dU2 q y' (dU1 q y' e)
  -- marks
  have msw : ∀ i, i ∈ ms → i % 500000 < w := cn.2.2.1.2
  have amr : ∀ i, i ∈ (Wc + cnt) :: (xm ++ ms) → i < bsl ∧ ¬ i % 500000 = Wc + cnt + 1 := fun i hi => by
    rcases List.mem_cons.1 hi with z | z
    · rw [z]; omega
    · rcases List.mem_append.1 z with y | y
      · have := kx i y; omega
      · have := msw i y; have := st_bs cn i y; omega
  -- FOR_ITER
  have t3 : TI O (fun q => H q ∨ (1 ≤ m ∧ q = N + fi)) nu (R - cs.length - o.length - 1) (mkc c C (N + cs.length + o.length + 1) (up1 (mkc c C (N + cs.length + o.length) D2) 1 (u, 0, (bsl + w2) :: ((Wc + cnt) :: (xm ++ ms)), β + m + 1))) := TI_s1 (c := mkc c C (N + cs.length + o.length) D2) t2' (no _ (by show N ≤ N + cs.length + o.length; omega)) (Nat.le_refl _) (by show N + cs.length + o.length + 1 ≤ _; omega) (fun _ _ => rfl) (fun y ey => by
    have ey' : D2 (N + cs.length + o.length) = some y := ey
    rw [e5'] at ey'
    cases ey'
    have ue : up1 (mkc c C (N + cs.length + o.length) D2) 1 (u, 0, (bsl + w2) :: ((Wc + cnt) :: (xm ++ ms)), β + m + 1) (N + cs.length + o.length + 1) = some (u, 0, (bsl + w2) :: ((Wc + cnt) :: (xm ++ ms)), β + m + 1) := up1_e (c := mkc c C (N + cs.length + o.length) D2)
    exact OKq_of (op := 69) (x := nI (Wc + cnt)) (up1_d t2' (Nat.le_refl _) e5') (no _ (by show N ≤ N + cs.length + o.length; omega)) u42 (Nat.le_refl _) (by omega) (by decide) (Nat.le_refl _) (by show C (N + cs.length + o.length) &&& 255 = _; rw [c69]; exact em_lo (by decide)) (by show C (N + cs.length + o.length) >>> ((8 : Int32) &&& 31) = _; rw [c69]; exact em_hi (by decide) (Sm3_n (by omega))) (fun c' a' hc ro => OKI_4 (by decide) ⟨by decide, by rw [u_n (by omega)]; omega, by
      rw [u_n (by omega)]
      have eF0 := tF_of a' cn.1.1
      have eF : tcF c' u = tcF c u := eF0
      exact ⟨fun z => absurd z (by decide), fun z => absurd z (by decide), fun z => absurd z (by decide), fun z => absurd z (by decide), fun z => absurd z (by decide), fun _ => ⟨tS_of a' cn.1.1 cn.2.1.1, sh_slb (w := w2) (ms := xm ++ ms) []⟩, fun _ => ⟨0, (bsl + w2) :: ((Wc + cnt) :: (xm ++ ms)), rfl, by rw [eF, bt_s]; omega, by rw [bt_s]; omega, by rw [eF]; omega, sh_mrl (w := w2) (ms := xm ++ ms) [] nilp (fun i hi => by
        rcases List.mem_cons.1 hi with z | z
        · exact Or.inl z
        · exact Or.inr z), shAll (w := w2) (ms := (Wc + cnt) :: (xm ++ ms)) [] nilp (fun i hi _ => (amr i hi).2), sh_slb (w := w2) (ms := (Wc + cnt) :: (xm ++ ms)) [], nx_of a' cn.1.1 ue (no _ (by show N ≤ N + cs.length + o.length + 1; omega)) (Rsh_r _ _) (by rw [bt_s]; show tcF c u ≤ w2; omega) (by rw [bt_s]; show tcF c u ≤ w2; omega) (by omega)⟩, fun z => absurd z (by decide), fun z => absurd z (by decide), fun z => absurd z (by decide), fun z => absurd z (by decide)⟩⟩)) (by omega)
  generalize hD3 : up1 (mkc c C (N + cs.length + o.length) D2) 1 (u, 0, (bsl + w2) :: ((Wc + cnt) :: (xm ++ ms)), β + m + 1) = D3 at t3
  have dU3 : ∀ q y', D2 q = some y' → D3 q = some y' := fun q y' e => by rw [← hD3]; exact up1_d t2' (Nat.le_refl _) e
  have m3 : D3 (N + cs.length + o.length + 1) = some (u, 0, (bsl + w2) :: ((Wc + cnt) :: (xm ++ ms)), β + m + 1) := by rw [← hD3]; exact up1_e (c := mkc c C (N + cs.length + o.length) D2)
  have o3 : ∀ q, q ≤ N + cs.length + o.length → D3 q = D2 q := fun q hq => by rw [← hD3]; exact up1_o (by show ¬ q = N + cs.length + o.length + 1; omega)
  -- FOR_NEXT
  have t4 : TI O (fun q => (H q ∨ (1 ≤ m ∧ q = N + fi)) ∨ (q = N + cs.length + o.length + 1 ∧ m = 0)) nu (R - cs.length - o.length - 3) (mkc c C (N + cs.length + o.length + 1 + 2) (up1 (mkc c C (N + cs.length + o.length + 1) D3) 2 (u, 1, (bsl + w2) :: ((Wc + cnt) :: (xm ++ ms)), R - cs.length - o.length - 3))) := by
    refine TI_em (ln := 2) (c := mkc c C (N + cs.length + o.length + 1) D3) (y := some (u, 1, (bsl + w2) :: ((Wc + cnt) :: (xm ++ ms)), R - cs.length - o.length - 3)) (Hn := m = 0) (On := False) t3 (by decide) (by show N + cs.length + o.length + 1 + 2 ≤ _; omega) (fun _ _ => rfl) rfl ⟨⟨rfl, rfl⟩, rfl, rfl⟩ (fun q => rfl) (fun q => ⟨Or.inl, fun z => z.elim id (fun w => w.2.elim)⟩) (fun z => z.elim) (fun q => Iff.rfl) (fun z => absurd z (no _ (by show N ≤ N + cs.length + o.length + 1; omega))) (fun hm y ey => ?_) (by omega)
    have ey' : D3 (N + cs.length + o.length + 1) = some y := ey
    rw [m3] at ey'
    cases ey'
    have hm1 : 1 ≤ m := by omega
    obtain ⟨_, eL⟩ := e3 hm1
    have l3 := k3 hm1
    have dU : ∀ q y', D3 q = some y' → up1 (mkc c C (N + cs.length + o.length + 1) D3) 2 (u, 1, (bsl + w2) :: ((Wc + cnt) :: (xm ++ ms)), R - cs.length - o.length - 3) q = some y' := fun q y' e => up1_d t3 (by decide) e
    have ue : up1 (mkc c C (N + cs.length + o.length + 1) D3) 2 (u, 1, (bsl + w2) :: ((Wc + cnt) :: (xm ++ ms)), R - cs.length - o.length - 3) (N + cs.length + o.length + 1 + 2) = some (u, 1, (bsl + w2) :: ((Wc + cnt) :: (xm ++ ms)), R - cs.length - o.length - 3) := up1_e (c := mkc c C (N + cs.length + o.length + 1) D3)
    have eL' := dU _ _ (dU3 _ _ (dU2 _ _ eL))
    exact OKq_of (op := 70) (x := nI (Wc + cnt)) (dU _ _ m3) (no _ (by show N ≤ N + cs.length + o.length + 1; omega)) u42 (by show N + cs.length + o.length + 1 + 1 ≤ N + cs.length + o.length + 1 + 2; omega) (by omega) (by decide) (by decide) (by show C (N + cs.length + o.length + 1) &&& 255 = _; rw [c70]; exact em_lo (by decide)) (by show C (N + cs.length + o.length + 1) >>> ((8 : Int32) &&& 31) = _; rw [c70]; exact em_hi (by decide) (Sm3_n (by omega))) (fun c' a' hc ro => OKI_4 (by decide) ⟨by decide, by rw [u_n (by omega)]; omega, by
      rw [u_n (by omega)]
      have eF0 := tF_of a' cn.1.1
      have eF : tcF c' u = tcF c u := eF0
      have n1 : N + cs.length + o.length + 1 + 2 ≤ tcN c' := a'.1
      have cw : tcC c' (N + cs.length + o.length + 1 + 1) = nI la - nI (cs.length + o.length + 1) := ((hc (N + cs.length + o.length + 1 + 1) (by show N + cs.length + o.length + 1 ≤ _; omega) (by show _ < N + cs.length + o.length + 1 + 2; omega)).trans (cW hm1)).trans (hw hm1)
      have tg := tg_b (N := N) (a := la) (b := cs.length + o.length + 1) (by omega) (by omega)
      exact ⟨fun z => absurd z (by decide), fun z => absurd z (by decide), fun z => absurd z (by decide), fun z => absurd z (by decide), fun z => absurd z (by decide), fun _ => ⟨tS_of a' cn.1.1 cn.2.1.1, sh_slb (w := w2) (ms := (Wc + cnt) :: (xm ++ ms)) []⟩, fun z => absurd z (by decide), fun _ => ⟨(bsl + w2) :: (lm ++ ms), sh_has (w := w2) (ms := (Wc + cnt) :: (xm ++ ms)) [] nilp List.mem_cons_self, by rw [bt_s]; omega, by rw [eF]; omega, shAll (w := w2) (ms := (Wc + cnt) :: (xm ++ ms)) [] nilp (fun i hi _ => (amr i hi).2), by show N + cs.length + o.length + 1 + 1 < _; omega, sh_mrl (w := w2) (ms := (Wc + cnt) :: (xm ++ ms)) [] nilp (fun i hi => by
        rcases List.mem_append.1 hi with z | z
        · exact List.mem_cons_of_mem _ (List.mem_append_left _ (kl' i z))
        · exact List.mem_cons_of_mem _ (List.mem_append_right _ z)), by
        show Nx c' (uN (nI (N + cs.length + o.length + 1) + tcC c' (N + cs.length + o.length + 1 + 1))) u 0 _ _
        rw [cw, show N + cs.length + o.length + 1 = N + (cs.length + o.length + 1) by omega, tg]
        exact nx_of a' cn.1.1 eL' (no _ (by show N ≤ N + la; omega)) (Rsh_r _ _) (by rw [bt_s]; show tcF c u ≤ w2; omega) (by rw [bt_s]; show tcF c u ≤ w2; omega) (by omega), nxS_of a' cn.1.1 ue (no _ (by show N ≤ N + cs.length + o.length + 1 + 2; omega)) (Rsh_r _ _) (by rw [bt_s]; show tcF c u ≤ w2; omega) (by rw [bt_s]; show tcF c u ≤ w2; omega) (by omega)⟩, fun z => absurd z (by decide), fun z => absurd z (by decide), fun z => absurd z (by decide)⟩⟩)
  generalize hD4 : up1 (mkc c C (N + cs.length + o.length + 1) D3) 2 (u, 1, (bsl + w2) :: ((Wc + cnt) :: (xm ++ ms)), R - cs.length - o.length - 3) = D4 at t4
  have dU4 : ∀ q y', D3 q = some y' → D4 q = some y' := fun q y' e => by rw [← hD4]; exact up1_d t3 (by decide) e
  have m4 : D4 (N + cs.length + o.length + 1 + 2) = some (u, 1, (bsl + w2) :: ((Wc + cnt) :: (xm ++ ms)), R - cs.length - o.length - 3) := by rw [← hD4]; exact up1_e (c := mkc c C (N + cs.length + o.length + 1) D3)
  have o4 : ∀ q, q ≤ N + cs.length + o.length + 1 → D4 q = D3 q := fun q hq => by rw [← hD4]; exact up1_o (by show ¬ q = N + cs.length + o.length + 1 + 2; omega)
  have z4 : D4 (N + cs.length + o.length + 1 + 1) = none := by
    rw [← hD4, up1_o (by show ¬ N + cs.length + o.length + 1 + 1 = N + cs.length + o.length + 1 + 2; omega)]
    exact t3.2.2.2.1 _ (by show N + cs.length + o.length + 1 < _; omega)
  -- the names
  have dU04 : ∀ q y', tcD c q = some y' → D4 q = some y' := fun q y' e => dU4 q y' (dU3 q y' (dU02 q y' e))
  have xb2 : ∀ i, i ∈ (Wc + cnt) :: xm → i < bsl ∧ w ≤ i % 500000 ∧ i % 500000 < w2 := fun i hi => by
    rcases List.mem_cons.1 hi with z | z
    · omega
    · exact xb i z
  have cn4 : StC O u gl Pc Vm nu (mkc c C (N + cs.length + o.length + 1 + 2) D4) w2 (((Wc + cnt) :: xm) ++ ms) := StC_k (StC_f cn (by omega) hw2 xb2 (fun i hi => Or.inl hi) (StC_v cn) (fun i hi => hi)) dU04
  have t5 := Is_fn (a := Wc) (C := C) (re := re) (by omega) hn t4 (fun q hq => no q (by have : N + cs.length + o.length + 1 + 2 ≤ q := hq; omega)) m4 cn4 (by omega) (fun i hi z => by
    rcases List.mem_cons.1 hi with v | v
    · omega
    · rcases List.mem_append.1 v with y | y
      · have := kx i y; omega
      · have := msw i y; have := st_bs cn i y; omega) (by omega) (by omega) (by show N + cs.length + o.length + 1 + 2 + ins.length ≤ _; omega) (fun _ _ => rfl) (fun i hi => by
    show C (N + cs.length + o.length + 1 + 2 + i) = _
    rw [show N + cs.length + o.length + 1 + 2 + i = N + cs.length + o.length + 3 + i by omega]; exact cI i hi)
  generalize hD5 : up1 (mkc c C (N + cs.length + o.length + 1 + 2) D4) ins.length (u, 0, (bsl + w2) :: (vmL Wc cnt ++ (Wc + cnt) :: (xm ++ ms)), re) = D5 at t5
  have dU5 : ∀ q y', D4 q = some y' → D5 q = some y' := fun q y' e => by rw [← hD5]; exact up1_d t4 hl.1 e
  have m5 : D5 (N + cs.length + o.length + 1 + 2 + ins.length) = some (u, 0, (bsl + w2) :: (vmL Wc cnt ++ (Wc + cnt) :: (xm ++ ms)), re) := by rw [← hD5]; exact up1_e (c := mkc c C (N + cs.length + o.length + 1 + 2) D4)
  have o5 : ∀ q, q ≤ N + cs.length + o.length + 1 + 2 → D5 q = D4 q := fun q hq => by rw [← hD5]; exact up1_o (by show ¬ q = N + cs.length + o.length + 1 + 2 + ins.length; omega)
  have eT : N + cs.length + o.length + 1 + 2 + ins.length = N + (cs.length + o.length + 3 + ins.length) := by omega
  have t5' : TI O (fun q => (H q ∨ (1 ≤ m ∧ q = N + fi)) ∨ (q = N + cs.length + o.length + 1 ∧ m = 0)) nu (R - cs.length - o.length - 3 - ins.length) (mkc c C (N + cs.length + o.length + 1 + 2 + ins.length) D5) := t5
  rw [eT] at t5' m5
  have eR : R - (cs.length + o.length + 3 + ins.length) = R - cs.length - o.length - 3 - ins.length := sub4 _ _ _ _
  have eM : vmL Wc cnt ++ (Wc + cnt) :: xm ++ ms = vmL Wc cnt ++ (Wc + cnt) :: (xm ++ ms) := List.append_assoc _ _ _
  have eq1 : D5 (N + (cs.length + o.length + 1)) = some (u, 0, (bsl + w2) :: ((Wc + cnt) :: (xm ++ ms)), β + m + 1) := by
    rw [show N + (cs.length + o.length + 1) = N + cs.length + o.length + 1 by omega]
    exact dU5 _ _ (dU4 _ _ m3)
  rw [eR, eM]
  refine ⟨D5, TI_h t5' (fun q => ?_), fun q hq => ?_, m5, fun _ => ⟨?_, eq1⟩⟩
  · by_cases z : m = 0
    · rw [if_pos z]
      constructor
      · rintro (y | y)
        · exact Or.inl (Or.inl y)
        · exact Or.inr ⟨by omega, z⟩
      · rintro ((y | y) | y)
        · exact Or.inl y
        · omega
        · exact Or.inr ⟨by omega, by omega⟩
    · rw [if_neg z]
      constructor
      · rintro (y | y)
        · exact Or.inl (Or.inl y)
        · exact Or.inl (Or.inr ⟨by omega, y.2⟩)
      · rintro ((y | y) | y)
        · exact Or.inl y
        · exact Or.inr ⟨by omega, y.2⟩
        · exact absurd y.2 z
  · exact (o5 q (by omega)).trans ((o4 q (by omega)).trans ((o3 q (by omega)).trans ((e4 q (by show q ≤ N + cs.length; omega)).trans (e1 q hq))))
  · by_cases z : m = 0
    · rw [if_pos z]
      have xe := k2' z
      refine ⟨Wc + cnt, ⟨?_, by omega, by omega⟩, ?_, ?_, R - cs.length - o.length - 3, by omega, ?_⟩
      · rw [show N + (cs.length + o.length + 1) = N + cs.length + o.length + 1 by omega]; exact c70
      · rw [eq1, z, xe]
      · rw [show N + (cs.length + o.length + 1) + 1 = N + cs.length + o.length + 1 + 1 by omega, o5 _ (by omega)]; exact z4
      · rw [show N + (cs.length + o.length + 1) + 2 = N + cs.length + o.length + 1 + 2 by omega, o5 _ (Nat.le_refl _), m4, xe]
    · rw [if_neg z]
      obtain ⟨⟨n1, ⟨a1, a2, a3⟩, a4, a5, rk, a6, a7⟩, _⟩ := e3 (by omega)
      have l3 := k3 (by omega)
      have up : ∀ q, q ≤ N + cs.length → D5 q = D1 q := fun q hq => (o5 q (by omega)).trans ((o4 q (by omega)).trans ((o3 q (by omega)).trans (e4 q hq)))
      exact ⟨n1, ⟨a1, a2, by omega⟩, (up _ (by omega)).trans a4, (up _ (by omega)).trans a5, rk, a6, (up _ (by omega)).trans a7⟩
end CWP
end JnS482
section JnS483
/-! The class: fors, typed. -/
section CWQ
variable {c c' c1 c2 : Ct} {O O' H H' : Nat → Prop} {u nu nu' pc ln R R' re p d d' rk k op w n m m' q t x y x1 x2 g s N N0 X h h0 Bd Bd' ns na nb pl ρ ρt β w2 Wc fi la cnt a : Nat} {r r' pre ms ms' mse xm lm : List Nat} {x0 v y0 y1 wd : Int32} {Vm Vm' : Nat → Prop} {Pc : Nat → Nat → Prop} {cs cs2 ins tl o co bo : List Int32} {gl : Nat × (Nat → Nat → Prop)} {C : Nat → Int32} {qs qa qb es : List Nat} {lo ow : Option Nat}
/-- a condition behind the iters -/
theorem FRw_cd (k : FRw u gl Pc Vm w N Wc m fi la xm lm cs) (hm : 1 ≤ m) (hV : ∀ i, Vm' i → Vm i ∨ (i ∈ xm ∧ 500000 ≤ i ∧ ∀ s, i = 500000 + s → ¬ s ∈ xm)) (hvm : ∀ i, Vm i → Vm' i) (g : Sgm u 0 gl Vm' 1 o) : FRw u gl Pc Vm w N Wc m fi la xm lm (cs ++ (o ++ [em 4 (nI la - nI (cs.length + o.length))])) := by
  obtain ⟨⟨k1, ⟨k2, k2'⟩, k3⟩, kx, kl', kk⟩ := k
  obtain ⟨g1, g2⟩ := g
  have rk40 : RK = 40000 := rfl
  have el : (cs ++ (o ++ [em 4 (nI la - nI (cs.length + o.length))])).length = cs.length + o.length + 1 := by
    rw [List.length_append, List.length_append]
    show cs.length + (o.length + 1) = _
    omega
  have l3 := k3 hm
  refine ⟨⟨k1, ⟨by rw [el]; omega, k2'⟩, fun _ => by rw [el]; omega⟩, kx, kl', fun O H nu R ρ β w2 c ms C ti eN no hD cn hR1 hR2 hρ hβ hw1 hw2 hN hC1 hC2 hC3 re hre => ?_⟩
  rw [el] at hR1 hN hC2 hre ⊢
  have hF := cn.1.2.2.1
  obtain ⟨D1, t1, e1, e2, e3⟩ := kk O H nu R ρ β w2 c ms C ti eN no hD cn (by omega) hR2 hρ (by omega) (by omega) hw2 (by omega) hC1 (fun i hi h1 h2 => by
    rw [hC2 i (by omega) h1 h2, gd_l hi]) hC3 (R - cs.length) (Nat.le_refl _)
  have dU1 : ∀ q y', tcD c q = some y' → D1 q = some y' := fun q y' e => dd_of ti (fun q hq => e1 q (by omega)) q y' e
  have xb : ∀ i, i ∈ xm → i < bsl ∧ w ≤ i % 500000 ∧ i % 500000 < w2 := fun i hi => by have := kx i hi; omega
  have cn1 : StC O u gl Pc Vm' nu c w2 (xm ++ ms) := StC_f cn (by omega) hw2 xb hV (StC_v cn) hvm
  have u42 := cn.1.2.1
  obtain ⟨D2, t2, e4, e5⟩ := g2 O (fun q => H q ∨ (1 ≤ m ∧ q = N + fi)) nu (R - cs.length) (mkc c C (N + cs.length) D1) 0 [] w2 (xm ++ ms) C t1 (no _ (by show N ≤ N + cs.length; omega)) e2 nilp (CnC_k cn1.1 dU1) (by omega) (by omega) (by omega) (by show N + cs.length + o.length ≤ _; omega) (fun _ _ => rfl) (fun i hi => by
    show C (N + cs.length + i) = _
    rw [Nat.add_assoc, hC2 (cs.length + i) (by omega) (by omega) (fun _ => by omega), gd_r, gd_l hi])
  have e5' : D2 (N + cs.length + o.length) = some (u, 1, (bsl + w2) :: (xm ++ ms), R - cs.length - o.length) := e5
  have t2' : TI O (fun q => H q ∨ (1 ≤ m ∧ q = N + fi)) nu (R - cs.length - o.length) (mkc c C (N + cs.length + o.length) D2) := t2
  have dU2 : ∀ q y', D1 q = some y' → D2 q = some y' := fun q y' e => dd_of t1 e4 q y' e
  have cJ : C (N + cs.length + o.length) = em 4 (nI la - nI (cs.length + o.length)) := by
    rw [show N + cs.length + o.length = N + (cs.length + (o.length + 0)) by omega, hC2 _ (by omega) (by omega) (fun _ => by omega), gd_r, gd_r]; rfl
  obtain ⟨eA, eL⟩ := e3 hm
  have t3 : TI O (fun q => H q ∨ (1 ≤ m ∧ q = N + fi)) nu (R - (cs.length + o.length + 1)) (mkc c C (N + cs.length + o.length + 1) (up1 (mkc c C (N + cs.length + o.length) D2) 1 (u, 0, (bsl + w2) :: (xm ++ ms), re))) := TI_s1 (c := mkc c C (N + cs.length + o.length) D2) t2' (no _ (by show N ≤ N + cs.length + o.length; omega)) (Nat.le_refl _) (by show N + cs.length + o.length + 1 ≤ _; omega) (fun _ _ => rfl) (fun y ey => by
    have ey' : D2 (N + cs.length + o.length) = some y := ey
    rw [e5'] at ey'
    cases ey'
    have ue : up1 (mkc c C (N + cs.length + o.length) D2) 1 (u, 0, (bsl + w2) :: (xm ++ ms), re) (N + cs.length + o.length + 1) = some (u, 0, (bsl + w2) :: (xm ++ ms), re) := up1_e (c := mkc c C (N + cs.length + o.length) D2)
    have eL' : up1 (mkc c C (N + cs.length + o.length) D2) 1 (u, 0, (bsl + w2) :: (xm ++ ms), re) (N + la) = some (u, 0, (bsl + w2) :: (lm ++ ms), β + m) := up1_d t2' (Nat.le_refl _) (dU2 _ _ eL)
    refine OKq_of (op := 4) (x := nI la - nI (cs.length + o.length)) (up1_d t2' (Nat.le_refl _) e5') (no _ (by show N ≤ N + cs.length + o.length; omega)) u42 (Nat.le_refl _) (by omega) (by decide) (Nat.le_refl _) (by show C (N + cs.length + o.length) &&& 255 = _; rw [cJ]; exact em_lo (by decide)) (by show C (N + cs.length + o.length) >>> ((8 : Int32) &&& 31) = _; rw [cJ]; exact em_hi (by decide) (Sm3_s (by omega) (by omega))) (fun c' a' hc ro => OKI_1 (by decide) ⟨fun z => absurd z (by omega), fun z => absurd z (by omega), fun _ => ⟨0, rfl, nx_of a' cn.1.1 ue (no _ (by show N ≤ N + cs.length + o.length + 1; omega)) (Rsh_r _ _) (by rw [bt_s]; show tcF c u ≤ w2; omega) (by rw [bt_s]; show tcF c u ≤ w2; omega) (by omega), ?_⟩, fun z => absurd z (by omega), fun z => absurd z (by omega)⟩)
    have tg := tg_b (N := N) (a := la) (b := cs.length + o.length) (by omega) (by omega)
    show Nx c' (uN (nI (N + cs.length + o.length) + (nI la - nI (cs.length + o.length)))) u 0 _ _
    rw [show N + cs.length + o.length = N + (cs.length + o.length) by omega, tg]
    exact nx_of a' cn.1.1 eL' (no _ (by show N ≤ N + la; omega)) (Rsh_m0 (fun i hi => by
      rcases List.mem_append.1 hi with z | z
      · exact List.mem_append_left _ (kl' i z)
      · exact List.mem_append_right _ z)) (by rw [bt_s]; show tcF c u ≤ w2; omega) (by rw [bt_s]; show tcF c u ≤ w2; omega) (by omega)) (by omega)
  generalize hD3 : up1 (mkc c C (N + cs.length + o.length) D2) 1 (u, 0, (bsl + w2) :: (xm ++ ms), re) = D3 at t3
  have m3 : D3 (N + cs.length + o.length + 1) = some (u, 0, (bsl + w2) :: (xm ++ ms), re) := by rw [← hD3]; exact up1_e (c := mkc c C (N + cs.length + o.length) D2)
  have eT : N + cs.length + o.length + 1 = N + (cs.length + o.length + 1) := by rw [Nat.add_assoc, Nat.add_assoc, Nat.add_assoc]
  rw [eT] at t3 m3
  have up : ∀ q, q ≤ N + cs.length → D3 q = D1 q := fun q hq => by
    rw [← hD3, up1_o (by show ¬ q = N + cs.length + o.length + 1; omega)]; exact e4 q hq
  obtain ⟨n1, ⟨a1, a2, a3⟩, a4, a5, rk, a6, a7⟩ := eA
  refine ⟨D3, t3, fun q hq => (up q (by omega)).trans (e1 q hq), m3, fun _ => ⟨⟨n1, ⟨a1, a2, a3⟩, (up _ (by omega)).trans a4, (up _ (by omega)).trans a5, rk, a6, (up _ (by omega)).trans a7⟩, (up _ (by omega)).trans eL⟩⟩
/-- FOR_CLEARs -/
def fcL : List (Nat × Nat × Nat) → List Int32
  | [] => []
  | e :: l => em 73 (nI e.1) :: nI e.2.1 :: nI e.2.2 :: fcL l
theorem fcL_l : ∀ l : List (Nat × Nat × Nat), (fcL l).length = 3 * l.length
  | [] => rfl
  | e :: l => by
    show (fcL l).length + 1 + 1 + 1 = 3 * (l.length + 1)
    rw [fcL_l l]; omega
theorem TI_fc (hw : w ≤ w2) : ∀ (l : List (Nat × Nat × Nat)) (c : Ct) (rs R : Nat), (∀ e, e ∈ l → (w ≤ e.1 ∧ e.1 + 1 < w2) ∧ w ≤ e.2.1 ∧ e.2.1 + e.2.2 ≤ w2) → TI O H nu R c → (∀ q, tcN c ≤ q → ¬ O q) → tcD c (tcN c) = some (u, 0, (bsl + w2) :: ms, rs + l.length) → StC O u gl Pc Vm nu c w2 ms → tcF c u ≤ w → (∀ i, i ∈ ms → i % 500000 < w) → rs + l.length ≤ 999 → R ≤ RK → tcN c + 3 * l.length ≤ 36864 → (∀ i, i < tcN c → C i = tcC c i) → (∀ i, i < 3 * l.length → C (tcN c + i) = (fcL l).getD i 0) → ∃ D, TI O H nu R (mkc c C (tcN c + 3 * l.length) D) ∧ (∀ q, q ≤ tcN c → D q = tcD c q) ∧ D (tcN c + 3 * l.length) = some (u, 0, (bsl + w2) :: ms, rs)
  | [], c, rs, R, _, ti, no, hD, cn, hF, hms, h9, hR, hN, hC1, hC2 => by
    refine ⟨tcD c, ?_, fun _ _ => rfl, hD⟩
    exact TI_tb (y := tcD c (tcN c)) (On := False) (nu' := nu) ti hC1 rfl (fun u => Or.inl (CtG_r O u nu c)) (Nat.le_refl _) (Or.inr rfl) (fun q => by
      show tcD c q = _
      by_cases z : q = tcN c
      · rw [if_pos z, z]
      · rw [if_neg z]) (fun q => ⟨Or.inl, fun z => z.elim id (fun w => w.2.elim)⟩) (fun z => z.elim) (Nat.le_refl _)
  | e :: l, c, rs, R, hl, ti, no, hD, cn, hF, hms, h9, hR, hN, hC1, hC2 => by
    have el : (e :: l).length = l.length + 1 := rfl
    rw [el] at hD h9 hN hC2 ⊢
    obtain ⟨⟨z1, z2⟩, z3, z4⟩ := hl e List.mem_cons_self
    have w200 := cn.2.1.2.2
    have rk40 : RK = 40000 := rfl
    have bs : bsl = 1000000 := rfl
    have c0 : C (tcN c) = em 73 (nI e.1) := hC2 0 (by omega)
    have c1 : C (tcN c + 1) = nI e.2.1 := hC2 1 (by omega)
    have c2 : C (tcN c + 2) = nI e.2.2 := hC2 2 (by omega)
    have dU : ∀ q y', tcD c q = some y' → up1 c 3 (u, 0, (bsl + w2) :: ms, rs + l.length) q = some y' := fun q y' e => up1_d ti (by decide) e
    have t1 : TI O H nu R (mkc c C (tcN c + 3) (up1 c 3 (u, 0, (bsl + w2) :: ms, rs + l.length))) := TI_s1 ti (no _ (Nat.le_refl _)) (by decide) (by omega) hC1 (fun y ey => by
      rw [hD] at ey
      cases ey
      exact OKq_of (op := 73) (x := nI e.1) (dU _ _ hD) (no _ (Nat.le_refl _)) cn.1.2.1 (by show tcN c + 1 ≤ tcN c + 3; omega) (by omega) (by decide) (by decide) (by show C (tcN c) &&& 255 = _; rw [c0]; exact em_lo (by decide)) (by show C (tcN c) >>> ((8 : Int32) &&& 31) = _; rw [c0]; exact em_hi (by decide) (Sm3_n (by omega))) (fun c' a' hc ro => OKI_4 (by decide) ⟨by decide, by rw [u_n (by omega)]; omega, by
        rw [u_n (by omega)]
        have eF0 := tF_of a' cn.1.1
        have eF : tcF c' u = tcF c u := eF0
        have n1 : tcN c + 3 ≤ tcN c' := a'.1
        have c1' : tcC c' (tcN c + 1) = nI e.2.1 := (hc (tcN c + 1) (by omega) (by omega)).trans c1
        have c2' : tcC c' (tcN c + 2) = nI e.2.2 := (hc (tcN c + 2) (by omega) (by omega)).trans c2
        exact ⟨fun z => absurd z (by decide), fun z => absurd z (by decide), fun z => absurd z (by decide), fun z => absurd z (by decide), fun z => absurd z (by decide), fun _ => ⟨tS_of a' cn.1.1 cn.2.1.1, sh_slb (w := w2) (ms := ms) []⟩, fun z => absurd z (by decide), fun z => absurd z (by decide), fun z => absurd z (by decide), fun z => absurd z (by decide), fun _ => ⟨(bsl + w2) :: ms, by omega, by rw [bt_s]; exact z2, by rw [eF]; omega, shAll (w := w2) (ms := ms) [] nilp (fun i hi _ => by have := hms i hi; omega), by rw [c1', c2', u_n (by omega), u_n (by omega), bt_s]; exact z4, by
          rw [c1', c2', u_n (by omega), u_n (by omega)]
          exact shAll (w := w2) (ms := ms) [] nilp (fun i hi z => by have := hms i hi; have := st_bs cn i hi; omega), sh_mrl (w := w2) (ms := ms) [] nilp (fun i hi => hi), nx_of a' cn.1.1 up1_e (no _ (by omega)) (Rsh_r _ _) (by rw [bt_s]; show tcF c u ≤ w2; omega) (by rw [bt_s]; show tcF c u ≤ w2; omega) (by show rs + l.length < rs + (l.length + 1); omega)⟩⟩⟩)) (Nat.le_refl _)
    obtain ⟨D, t2, e2, f2⟩ := TI_fc hw l (mkc c C (tcN c + 3) (up1 c 3 (u, 0, (bsl + w2) :: ms, rs + l.length))) rs R (fun e he => hl e (List.mem_cons_of_mem _ he)) t1 (fun q hq => no q (by have : tcN c + 3 ≤ q := hq; omega)) up1_e (StC_k cn dU) hF hms (by omega) hR (by show tcN c + 3 + 3 * l.length ≤ _; omega) (fun _ _ => rfl) (fun i hi => by
      show C (tcN c + 3 + i) = _
      rw [show tcN c + 3 + i = tcN c + (i + 3) by omega]
      exact hC2 (i + 3) (by omega))
    have eT : tcN c + 3 + 3 * l.length = tcN c + 3 * (l.length + 1) := by omega
    have t2' : TI O H nu R (mkc c C (tcN c + 3 + 3 * l.length) D) := t2
    have f2' : D (tcN c + 3 + 3 * l.length) = some (u, 0, (bsl + w2) :: ms, rs) := f2
    rw [eT] at t2' f2'
    exact ⟨D, t2', fun q hq => (e2 q (by show q ≤ tcN c + 3; omega)).trans (up1_o (by omega)), f2'⟩
end CWQ
end JnS483
section JnS484
/-! The class: fors, typed. -/
section CWR
variable {c c' c1 c2 : Ct} {O O' H H' : Nat → Prop} {u nu nu' pc ln R R' re p d d' rk k op w n m m' q t x y x1 x2 g s N N0 X h h0 Bd Bd' ns na nb pl ρ ρt β w2 Wc fi la cnt a : Nat} {r r' pre ms ms' mse xm lm : List Nat} {x0 v y0 y1 wd : Int32} {Vm Vm' : Nat → Prop} {Pc : Nat → Nat → Prop} {cs cs2 ins tl o co bo : List Int32} {gl : Nat × (Nat → Nat → Prop)} {C : Nat → Int32} {qs qa qb es : List Nat} {lo ow : Option Nat} {l : List (Nat × Nat × Nat)}
/-- for .. do .. end -/
theorem Stm_fo (k : FRw u gl Pc Vm w N w2 m fi la xm lm cs) (hm : 1 ≤ m) (hV : ∀ i, Vm' i → Vm i ∨ (i ∈ xm ∧ 500000 ≤ i ∧ ∀ s, i = 500000 + s → ¬ s ∈ xm)) (hvm : ∀ i, Vm i → Vm' i) (hw : w2 ≤ 200) (hb : Stm u gl Pc Vm' w2 (N + cs.length) (some (N + la)) Bd' nb qb bo) (hB : Bd' + m + l.length + 3 ≤ Bd) (hl : ∀ e, e ∈ l → (w ≤ e.1 ∧ e.1 + 1 < w2) ∧ w ≤ e.2.1 ∧ e.2.1 + e.2.2 ≤ w2) (len : cs2.length = cs.length + bo.length + 1 + 3 * l.length + 1) (k1 : ∀ i, i < cs.length → ¬ i = 1 → ¬ i = fi + 1 → cs2.getD i 0 = cs.getD i 0) (k2 : cs2.getD 1 0 = em 42 (nI (w2 - w))) (k3 : cs2.getD (fi + 1) 0 = nI (cs.length + bo.length + 1 - fi)) (k4 : ∀ i, i < bo.length → ¬ i ∈ qb → cs2.getD (cs.length + i) 0 = bo.getD i 0) (k5 : ∀ h, h ∈ qb → cs2.getD (cs.length + h) 0 = em 3 (nI (bo.length + 1 - h))) (k6 : cs2.getD (cs.length + bo.length) 0 = em 3 (nI la - nI (cs.length + bo.length))) (k7 : ∀ i, i < 3 * l.length → cs2.getD (cs.length + bo.length + 1 + i) 0 = (fcL l).getD i 0) (k8 : cs2.getD (cs.length + bo.length + 1 + 3 * l.length) 0 = em 37 (nI (w2 - w))) : Stm u gl Pc Vm w N lo Bd (nb + 1) [] cs2 := by
  obtain ⟨⟨w1, ⟨l2, _⟩, lf⟩, kx, kl', kk⟩ := k
  obtain ⟨⟨p1, p2⟩, hb⟩ := hb
  obtain ⟨lf1, lf2, lf3⟩ := lf hm
  refine ⟨⟨fun h z => absurd z List.not_mem_nil, List.Pairwise.nil⟩, fun O H nu R ρ c ms C ti eN no hD cn lp hR1 hR2 h2 hB' hN hC1 hC2 => ?_⟩
  rw [len] at hR1 hN hC2 ⊢
  have rk40 : RK = 40000 := rfl
  have bs : bsl = 1000000 := rfl
  have hu : (u ≤ nu ∨ u = 41) ∧ u < 42 := ⟨cn.1.1, cn.1.2.1⟩
  have hz : ∀ q, H q → q < N := fun q z => by have := ti.2.2.1 q z; omega
  have hF := cn.1.2.2.1
  have cc : ∀ i, i < cs.length + bo.length + 1 + 3 * l.length + 1 → C (N + i) = cs2.getD i 0 := fun i hi => hC2 i hi List.not_mem_nil
  have msw : ∀ i, i ∈ ms → i % 500000 < w := cn.2.2.1.2
  -- the row of iters
  obtain ⟨D1, t1, e1, e2, e3⟩ := kk O H nu R ρ (ρ + 1 + l.length) w2 c ms C ti eN no hD cn (by omega) hR2 (by omega) (by omega) (Nat.le_refl _) hw (by omega) hC1 (fun i hi h1 h3 => (cc i (by omega)).trans (k1 i hi h1 (h3 hm))) ((cc 1 (by omega)).trans k2) (ρ + 1 + l.length + m + 1) (by omega)
  obtain ⟨⟨n1, ⟨a1, a2, a3⟩, a4, a5, rkf, a6, a7⟩, eL⟩ := e3 hm
  have dU1 : ∀ q y', tcD c q = some y' → D1 q = some y' := fun q y' e => dd_of ti (fun q hq => e1 q (by omega)) q y' e
  have xb : ∀ i, i ∈ xm → i < bsl ∧ w ≤ i % 500000 ∧ i % 500000 < w2 := kx
  have cn1 : StC O u gl Pc Vm' nu c w2 (xm ++ ms) := StC_f cn w1 hw xb hV (StC_v cn) hvm
  -- its statements
  obtain ⟨D2, t2, e4, f4, g4⟩ := hb O (fun q => H q ∨ (1 ≤ m ∧ q = N + fi)) nu (R - cs.length) (ρ + 1 + l.length + m + 1) (mkc c C (N + cs.length) D1) (xm ++ ms) C t1 rfl (fun q hq => no q (by omega)) e2 (StC_k cn1 dU1) (fun P0 e => by
    cases e
    exact ⟨by show N + la < N + cs.length; omega, no _ (by omega), lm ++ ms, ρ + 1 + l.length + m, fun i hi => by
      rcases List.mem_append.1 hi with z | z
      · exact List.mem_append_left _ (kl' i z)
      · exact List.mem_append_right _ z, by omega, eL⟩) (by omega) (by omega) (by omega) (by omega) (by omega) (fun _ _ => rfl) (fun i hi hn => by
    rw [Nat.add_assoc, cc _ (by omega)]; exact k4 i hi hn)
  have dU2 : ∀ q y', D1 q = some y' → D2 q = some y' := fun q y' e => dd_of t1 e4 q y' e
  have dU02 : ∀ q y', tcD c q = some y' → D2 q = some y' := fun q y' e => dU2 q y' (dU1 q y' e)
  -- the jump back; behind it the rows are let go
  have cB : C (N + cs.length + bo.length) = em 3 (nI la - nI (cs.length + bo.length)) := by
    rw [Nat.add_assoc, cc _ (by omega)]; exact k6
  have dU3 : ∀ q y', D2 q = some y' → up1 (mkc c C (N + cs.length + bo.length) D2) 1 (u, 0, (bsl + w2) :: ms, ρ + 1 + l.length) q = some y' := fun q y' e => up1_d t2 (Nat.le_refl _) e
  have t3 : TI O (fun q => (H q ∨ (1 ≤ m ∧ q = N + fi)) ∨ ∃ h, h ∈ qb ∧ q = N + cs.length + h) nu (R - cs.length - bo.length - nb) (mkc c C (N + cs.length + bo.length + 1) (up1 (mkc c C (N + cs.length + bo.length) D2) 1 (u, 0, (bsl + w2) :: ms, ρ + 1 + l.length))) := TI_s1 (c := mkc c C (N + cs.length + bo.length) D2) t2 (no _ (by show N ≤ N + cs.length + bo.length; omega)) (Nat.le_refl _) (by show N + cs.length + bo.length + 1 ≤ _; omega) (fun _ _ => rfl) (fun y ey => by
    have ey' : D2 (N + cs.length + bo.length) = some y := ey
    rw [f4] at ey'
    cases ey'
    refine OKq_of (op := 3) (x := nI la - nI (cs.length + bo.length)) (dU3 _ _ f4) (no _ (by show N ≤ N + cs.length + bo.length; omega)) cn.1.2.1 (Nat.le_refl _) (by omega) (by decide) (Nat.le_refl _) (by show C (N + cs.length + bo.length) &&& 255 = _; rw [cB]; exact em_lo (by decide)) (by show C (N + cs.length + bo.length) >>> ((8 : Int32) &&& 31) = _; rw [cB]; exact em_hi (by decide) (Sm3_s (by omega) (by omega))) (fun c' a _ _ => OKI_1 (by decide) ⟨fun z => absurd z (by omega), fun _ => ?_, fun z => absurd z (by omega), fun z => absurd z (by omega), fun z => absurd z (by omega)⟩)
    have tg := tg_b (N := N) (a := la) (b := cs.length + bo.length) (by omega) (by omega)
    rw [show N + cs.length + bo.length = N + (cs.length + bo.length) by omega, tg]
    have eLu : up1 (mkc c C (N + (cs.length + bo.length)) D2) 1 (u, 0, (bsl + w2) :: ms, ρ + 1 + l.length) (N + la) = some (u, 0, (bsl + w2) :: (lm ++ ms), ρ + 1 + l.length + m) := by
      have z := dU3 _ _ (dU2 _ _ eL)
      rw [show N + cs.length + bo.length = N + (cs.length + bo.length) by omega] at z
      exact z
    rw [show N + cs.length + bo.length = N + (cs.length + bo.length) by omega] at a
    exact nx_of a cn.1.1 eLu (no _ (by show N ≤ N + la; omega)) (Rsh_m0 (fun i hi => by
      rcases List.mem_append.1 hi with z | z
      · exact List.mem_append_left _ (kl' i z)
      · exact List.mem_append_right _ z)) (by rw [bt_s]; show tcF c u ≤ w2; omega) (by rw [bt_s]; show tcF c u ≤ w2; omega) (by omega)) (Nat.le_refl _)
  generalize hD3 : up1 (mkc c C (N + cs.length + bo.length) D2) 1 (u, 0, (bsl + w2) :: ms, ρ + 1 + l.length) = D3 at t3 dU3
  have m3 : D3 (N + cs.length + bo.length + 1) = some (u, 0, (bsl + w2) :: ms, ρ + 1 + l.length) := by rw [← hD3]; exact up1_e (c := mkc c C (N + cs.length + bo.length) D2)
  have o3 : ∀ q, q ≤ N + cs.length + bo.length → D3 q = D2 q := fun q hq => by rw [← hD3]; exact up1_o (by show ¬ q = N + cs.length + bo.length + 1; omega)
  -- quits
  have t4 := TI_qs (c := mkc c C (N + cs.length + bo.length + 1) D3) (N0 := N + cs.length) (X := N + cs.length + bo.length + 1) (mse := ms) (ms := xm ++ ms) (w := w2) (u := u) (ρt := ρ + 1 + l.length) hu (by show tcF c u ≤ w2; omega) (no _ (by omega)) m3 (fun i hi => List.mem_append_right _ hi) (Nat.le_refl _) qb (fun q => H q ∨ (1 ≤ m ∧ q = N + fi)) t3 (fun h hh => by
    have hlt := p1 h hh
    obtain ⟨rk, z1, z2, z3⟩ := g4 h hh
    refine ⟨fun y => ?_, no _ (by omega), by omega, ?_, rk, by omega, z2, dU3 _ _ z3⟩
    · rcases y with y | y
      · have := hz _ y; omega
      · omega
    · show C (N + cs.length + h) = _
      rw [Nat.add_assoc, cc _ (by omega), k5 h hh]
      exact congrArg (fun z => em 3 (nI z)) (by omega)) p2
  -- the first FOR_NEXT: where there is nothing left
  have b4 : D3 (N + fi) = some (u, 0, (bsl + w2) :: (n1 :: ([] ++ ms)), ρ + 1 + l.length + 1) := dU3 _ _ (dU2 _ _ a4)
  have b5 : D3 (N + fi + 1) = none := by
    rw [o3 _ (by omega)]
    exact (e4 _ (by show N + fi + 1 ≤ N + cs.length; omega)).trans a5
  have b7 : D3 (N + fi + 2) = some (u, 1, (bsl + w2) :: (n1 :: ([] ++ ms)), rkf) := dU3 _ _ (dU2 _ _ a7)
  have hfz : ¬ H (N + fi) := fun z => by have := hz _ z; omega
  have amr : ∀ i, i ∈ n1 :: ([] ++ ms) → i < bsl ∧ ¬ i % 500000 = n1 + 1 := fun i hi => by
    rcases List.mem_cons.1 hi with z | z
    · rw [z]; omega
    · have z' : i ∈ ms := z
      have := msw i z'; have := st_bs cn i z'; omega
  have t5 : TI O H nu (R - cs.length - bo.length - nb) (mkc c C (N + cs.length + bo.length + 1) D3) := by
    refine TI_fi (ln := 2) (h := N + fi) (c := mkc c C (N + cs.length + bo.length + 1) D3) t4 (by decide) (Or.inr ⟨hm, rfl⟩) (no _ (by omega)) (by show N + fi + 2 ≤ N + cs.length + bo.length + 1; omega) (fun _ _ => rfl) rfl b4 (fun i y h1 h3 e => ?_) (fun h' hh => ?_) (fun q => ⟨fun z => ⟨Or.inl z, fun e => hfz (e ▸ z)⟩, fun z => z.1.elim id (fun y => absurd y.2 z.2)⟩) ?_
    · have : i = N + fi + 1 := by omega
      subst this
      have e' : D3 (N + fi + 1) = some y := e
      rw [b5] at e'
      cases e'
    · rcases hh with z | z
      · have := hz _ z; omega
      · omega
    · refine OKq_of (op := 70) (x := nI n1) b4 (no _ (by show N ≤ N + fi; omega)) cn.1.2.1 (by show N + fi + 1 ≤ N + cs.length + bo.length + 1; omega) (by omega) (by decide) (by decide) (by show C (N + fi) &&& 255 = _; rw [a1]; exact em_lo (by decide)) (by show C (N + fi) >>> ((8 : Int32) &&& 31) = _; rw [a1]; exact em_hi (by decide) (Sm3_n (by omega))) (fun c' a' hc ro => OKI_4 (by decide) ⟨by decide, by rw [u_n (by omega)]; omega, ?_⟩)
      rw [u_n (by omega)]
      have eF0 := tF_of a' cn.1.1
      have eF : tcF c' u = tcF c u := eF0
      have nn : N + cs.length + bo.length + 1 ≤ tcN c' := a'.1
      have cw : tcC c' (N + fi + 1) = nI (cs.length + bo.length + 1 - fi) := ((hc (N + fi + 1) (by omega) (by omega)).trans (show C (N + fi + 1) = C (N + (fi + 1)) from rfl)).trans ((cc _ (by omega)).trans k3)
      have tg := tg_f (h0 := N + fi) (X := N + cs.length + bo.length + 1) (by omega) (by omega)
      rw [show N + cs.length + bo.length + 1 - (N + fi) = cs.length + bo.length + 1 - fi by omega] at tg
      exact ⟨fun z => absurd z (by decide), fun z => absurd z (by decide), fun z => absurd z (by decide), fun z => absurd z (by decide), fun z => absurd z (by decide), fun _ => ⟨tS_of a' cn.1.1 cn.2.1.1, sh_slb (w := w2) (ms := n1 :: ([] ++ ms)) []⟩, fun z => absurd z (by decide), fun _ => ⟨(bsl + w2) :: ms, sh_has (w := w2) (ms := n1 :: ([] ++ ms)) [] nilp List.mem_cons_self, by rw [bt_s]; omega, by rw [eF]; omega, shAll (w := w2) (ms := n1 :: ([] ++ ms)) [] nilp (fun i hi _ => (amr i hi).2), by omega, sh_mrl (w := w2) (ms := n1 :: ([] ++ ms)) [] nilp (fun i hi => List.mem_cons_of_mem _ hi), by
        rw [cw, tg]
        exact nx_of a' cn.1.1 m3 (no _ (by omega)) (Rsh_r _ _) (by rw [bt_s]; show tcF c u ≤ w2; omega) (by rw [bt_s]; show tcF c u ≤ w2; omega) (by omega), nxS_of a' cn.1.1 b7 (no _ (by omega)) (Rsh_r _ _) (by rw [bt_s]; show tcF c u ≤ w2; omega) (by rw [bt_s]; show tcF c u ≤ w2; omega) (by omega)⟩, fun z => absurd z (by decide), fun z => absurd z (by decide), fun z => absurd z (by decide)⟩
  -- FOR_CLEARs
  have dU03 : ∀ q y', tcD c q = some y' → D3 q = some y' := fun q y' e => dU3 q y' (dU02 q y' e)
  have cn5 : StC O u gl Pc Vm nu (mkc c C (N + cs.length + bo.length + 1) D3) w2 ms := StC_k (StC_f (xm := []) cn w1 hw (fun i hi => absurd hi List.not_mem_nil) (fun i hi => Or.inl hi) (StC_v cn) (fun i hi => hi)) dU03
  obtain ⟨D6, t6, e6, f6⟩ := TI_fc (C := C) w1 l (mkc c C (N + cs.length + bo.length + 1) D3) (ρ + 1) (R - cs.length - bo.length - nb) hl t5 (fun q hq => no q (by have : N + cs.length + bo.length + 1 ≤ q := hq; omega)) m3 cn5 hF msw (by omega) (by omega) (by show N + cs.length + bo.length + 1 + 3 * l.length ≤ _; omega) (fun _ _ => rfl) (fun i hi => by
    show C (N + cs.length + bo.length + 1 + i) = _
    rw [show N + cs.length + bo.length + 1 + i = N + (cs.length + bo.length + 1 + i) by omega, cc _ (by omega)]
    exact k7 i hi)
  have t6' : TI O H nu (R - cs.length - bo.length - nb) (mkc c C (N + cs.length + bo.length + 1 + 3 * l.length) D6) := t6
  have f6' : D6 (N + cs.length + bo.length + 1 + 3 * l.length) = some (u, 0, (bsl + w2) :: ms, ρ + 1) := f6
  -- DROP
  have cD : C (N + cs.length + bo.length + 1 + 3 * l.length) = em 37 (nI (w2 - w)) := by
    rw [show N + cs.length + bo.length + 1 + 3 * l.length = N + (cs.length + bo.length + 1 + 3 * l.length) by omega, cc _ (by omega)]; exact k8
  have t7 : TI O H nu (R - (cs.length + bo.length + 1 + 3 * l.length + 1) - (nb + 1)) (mkc c C (N + cs.length + bo.length + 1 + 3 * l.length + 1) (up1 (mkc c C (N + cs.length + bo.length + 1 + 3 * l.length) D6) 1 (u, 0, (bsl + w) :: ms, ρ))) := TI_s1 (c := mkc c C (N + cs.length + bo.length + 1 + 3 * l.length) D6) t6' (no _ (by show N ≤ N + cs.length + bo.length + 1 + 3 * l.length; omega)) (Nat.le_refl _) (by show N + cs.length + bo.length + 1 + 3 * l.length + 1 ≤ _; omega) (fun _ _ => rfl) (fun y ey => by
    have ey' : D6 (N + cs.length + bo.length + 1 + 3 * l.length) = some y := ey
    rw [f6'] at ey'
    cases ey'
    have ue : up1 (mkc c C (N + cs.length + bo.length + 1 + 3 * l.length) D6) 1 (u, 0, (bsl + w) :: ms, ρ) (N + cs.length + bo.length + 1 + 3 * l.length + 1) = some (u, 0, (bsl + w) :: ms, ρ) := up1_e (c := mkc c C (N + cs.length + bo.length + 1 + 3 * l.length) D6)
    exact OKq_of (op := 37) (x := nI (w2 - w)) (up1_d t6' (Nat.le_refl _) f6') (no _ (by show N ≤ N + cs.length + bo.length + 1 + 3 * l.length; omega)) cn.1.2.1 (Nat.le_refl _) (by omega) (by decide) (Nat.le_refl _) (by show C (N + cs.length + bo.length + 1 + 3 * l.length) &&& 255 = _; rw [cD]; exact em_lo (by decide)) (by show C (N + cs.length + bo.length + 1 + 3 * l.length) >>> ((8 : Int32) &&& 31) = _; rw [cD]; exact em_hi (by decide) (Sm3_n (by omega))) (fun c' a hc ro => OKI_2 (by decide) ⟨fun z => absurd z (by decide), fun z => absurd z (by decide), fun z => absurd z (by decide), fun z => absurd z (by decide), fun z => absurd z (by decide), fun _ => ⟨0, (bsl + w) :: ms, by
      rw [u_n (by omega)]
      have rs := Drp_ds (d := 0) (w := w) (n := w2 - w) (ms := ms) (ms' := ms) (fun i h => ⟨h, fun _ => msw i h⟩)
      rw [show w + (w2 - w) = w2 by omega] at rs
      exact rs, nx_of a cn.1.1 ue (no _ (by show N ≤ N + cs.length + bo.length + 1 + 3 * l.length + 1; omega)) (Rsh_r _ _) (by rw [bt_s]; exact hF) (by rw [bt_s]; exact hF) (by omega)⟩, fun z => absurd z (by decide), fun z => absurd z (by decide), fun z => absurd z (by decide), fun z => absurd z (by decide), fun z => absurd z (by omega)⟩)) (by omega)
  generalize hD7 : up1 (mkc c C (N + cs.length + bo.length + 1 + 3 * l.length) D6) 1 (u, 0, (bsl + w) :: ms, ρ) = D7 at t7
  have m7 : D7 (N + cs.length + bo.length + 1 + 3 * l.length + 1) = some (u, 0, (bsl + w) :: ms, ρ) := by rw [← hD7]; exact up1_e (c := mkc c C (N + cs.length + bo.length + 1 + 3 * l.length) D6)
  have o7 : ∀ q, q ≤ N + cs.length + bo.length + 1 + 3 * l.length → D7 q = D6 q := fun q hq => by rw [← hD7]; exact up1_o (by show ¬ q = N + cs.length + bo.length + 1 + 3 * l.length + 1; omega)
  have eT : N + cs.length + bo.length + 1 + 3 * l.length + 1 = N + (cs.length + bo.length + 1 + 3 * l.length + 1) := by omega
  rw [eT] at t7 m7
  refine ⟨D7, TI_h t7 (fun q => ⟨fun z => z.elim id (fun ⟨h, y, _⟩ => absurd y List.not_mem_nil), Or.inl⟩), fun q hq => ?_, m7, fun h z => absurd z List.not_mem_nil⟩
  exact (o7 q (by omega)).trans ((e6 q (by show q ≤ N + cs.length + bo.length + 1; omega)).trans ((o3 q (by omega)).trans ((e4 q (by show q ≤ N + cs.length; omega)).trans (e1 q hq))))
end CWR
end JnS484
section JnS485
/-! The class: how its parser stands among statements. -/
section CXA
variable {σ σ' σ0 σ2 τ τ' : CS} {L : LV} {b : Bool} {T : Nat → Int32} {n q q' u al o v mk mk' p sz sz' szB nc nc' nc0 sz0 mk0 a1 a2 m kk f e w w' st st' : Nat} {y qh qh' : Int32} {l l' cs cs' : List Int32} {tb tb' : List Ent} {α : Type} {x : Fl α} {S : α → Int32 → CS → Prop} {C : Prop} {E : En} {gl : Nat × (Nat → Nat → Prop)} {Vm : Nat → Prop} {bt : BT} {lo lo' : Option Nat}
/-- what reading statements leaves, but for names, code and marks that come behind -/
def ZK (b : Bool) (u nc sz mk : Nat) (σ σ' : CS) : Prop := ((∀ j, ¬ (j = 404 ∨ (3702 ≤ j ∧ j ≤ 3704) ∨ (4005 ≤ j ∧ j ≤ 4020) ∨ j = fP b 1 ∨ j = fP b 3 ∨ j = fP b 11 ∨ j = fP b 19) → σ'.1 j = σ.1 j) ∧ (∀ j, ¬ (j = 3705 ∨ j = 3706) → σ'.2.1 j = σ.2.1 j)) ∧ ((∀ k, ¬ ((5 ≤ k ∧ k ≤ 11) ∨ (41 ≤ k ∧ k ≤ 43) ∨ k = 51 ∨ k = pR7 b ∨ k = pR8 b ∨ k = pR9 b ∨ k = pR10 b ∨ k = pR16 b ∨ k = pR17 b ∨ k = pR18 b) → σ'.2.2.1 k = σ.2.2.1 k) ∧ (∀ k, ¬ ((41 ≤ k ∧ k ≤ 43) ∨ k = 51) → sN σ' k = sN σ k) ∧ (∀ k, ¬ (k = pR5 b ∨ k = pR6 b) → σ'.2.2.2.1 k = σ.2.2.2.1 k)) ∧ ((sCur σ' = sCur σ ∧ sOt σ' = sOt σ ∧ sPr σ' = sPr σ ∧ sPp σ' = sPp σ) ∧ (∀ c, ¬ c = b → sKd σ' c = sKd σ c) ∧ σ'.2.2.2.2.2.2 = σ.2.2.2.2.2.2) ∧ (∀ i, ¬ i = u → σ'.2.2.1 (pR16 b) i = σ.2.2.1 (pR16 b) i ∧ σ'.2.2.1 (pR18 b) i = σ.2.2.1 (pR18 b) i) ∧ (∀ i, i < nc → (σ'.2.2.2.1 (pR5 b) i = σ.2.2.2.1 (pR5 b) i ∧ σ'.2.2.2.1 (pR6 b) i = σ.2.2.2.1 (pR6 b) i) ∧ (σ'.2.2.1 (pR7 b) i = σ.2.2.1 (pR7 b) i ∧ σ'.2.2.1 (pR8 b) i = σ.2.2.1 (pR8 b) i) ∧ σ'.2.2.1 (pR9 b) i = σ.2.2.1 (pR9 b) i ∧ σ'.2.2.1 (pR10 b) i = σ.2.2.1 (pR10 b) i) ∧ (∀ i, i < sz → cdr b σ' i = cdr b σ i ∧ cdr (!b) σ' i = cdr (!b) σ i) ∧ (∀ i, i < mk → σ'.2.2.1 41 i = σ.2.2.1 41 i) ∧ (sz ≤ cdn b σ' ∧ (cdn b σ' = 36864 ∨ (sN σ' 43 = 1024 ∧ sN σ' 51 = 1024))) ∧ (mk ≤ sN σ' 41 ∧ sN σ' 41 ≤ 21504) ∧ (sN σ' 42 = sN σ 42 ∨ sN σ' 42 = 16384)
theorem ZK_t (a : ZK b u nc sz mk σ σ') (d : ZK b u nc' sz' mk' σ' σ2) (h1 : nc ≤ nc') (h2 : sz ≤ sz') (h3 : mk ≤ mk') : ZK b u nc sz mk σ σ2 := by
  obtain ⟨⟨a1, a2⟩, ⟨a3, a4, a5⟩, ⟨⟨a6, a7, a8, a9⟩, a10, a11⟩, a12, a13, a14, a15, a16, a17, a18⟩ := a
  obtain ⟨⟨d1, d2⟩, ⟨d3, d4, d5⟩, ⟨⟨d6, d7, d8, d9⟩, d10, d11⟩, d12, d13, d14, d15, d16, d17, d18⟩ := d
  refine ⟨⟨fun j hj => (d1 j hj).trans (a1 j hj), fun j hj => (d2 j hj).trans (a2 j hj)⟩, ⟨fun k hk => (d3 k hk).trans (a3 k hk), fun k hk => (d4 k hk).trans (a4 k hk), fun k hk => (d5 k hk).trans (a5 k hk)⟩, ⟨⟨d6.trans a6, d7.trans a7, d8.trans a8, d9.trans a9⟩, fun c hc => (d10 c hc).trans (a10 c hc), d11.trans a11⟩, fun i hi => ⟨(d12 i hi).1.trans (a12 i hi).1, (d12 i hi).2.trans (a12 i hi).2⟩, fun i hi => ?_, fun i hi => ⟨(d14 i (by omega)).1.trans (a14 i hi).1, (d14 i (by omega)).2.trans (a14 i hi).2⟩, fun i hi => (d15 i (by omega)).trans (a15 i hi), ⟨by omega, d16.2⟩, ⟨by omega, d17.2⟩, ?_⟩
  · have y := d13 i (by omega)
    have w := a13 i hi
    exact ⟨⟨y.1.1.trans w.1.1, y.1.2.trans w.1.2⟩, ⟨y.2.1.1.trans w.2.1.1, y.2.1.2.trans w.2.1.2⟩, y.2.2.1.trans w.2.2.1, y.2.2.2.trans w.2.2.2⟩
  · rcases d18 with z | z
    · rw [z]; exact a18
    · exact Or.inr z
theorem pR_d (b : Bool) : (pR7 b = 46 ∧ pR8 b = 47 ∧ pR9 b = 48 ∧ pR10 b = 49 ∧ pR13 b = 69 ∧ pR14 b = 70 ∧ pR15 b = 71 ∧ pR16 b = 72 ∧ pR17 b = 73 ∧ pR18 b = 74) ∨ (pR7 b = 54 ∧ pR8 b = 55 ∧ pR9 b = 56 ∧ pR10 b = 57 ∧ pR13 b = 58 ∧ pR14 b = 59 ∧ pR15 b = 60 ∧ pR16 b = 61 ∧ pR17 b = 62 ∧ pR18 b = 63) := by
  cases b
  · exact Or.inl (by decide)
  · exact Or.inr (by decide)
theorem ZK_of (h : XK b u nc sz mk σ σ') : ZK b u nc sz mk σ σ' := by
  obtain ⟨⟨d1, d2⟩, ⟨d3, d4, d5⟩, d6, d12, d13, d14, d15, d16, d17⟩ := h
  have pd := pR_d b
  exact ⟨⟨fun j hj => d1 j (by omega), d2⟩, ⟨fun k hk => d3 k (by omega), fun k hk => d4 k (by omega), d5⟩, d6, fun i hi => ⟨d12 i hi, by rw [d3 (pR18 b) (by omega)]⟩, d13, d14, d15, d16, d17, Or.inl (d4 42 (by decide))⟩
/-- where the next turn of the loop around begins -/
def lpI : Option Nat → Int32
  | none => -1
  | some p => nI p
/-- slots in use, statements, the loop around and its newest quit -/
def ZF (b : Bool) (u w st : Nat) (lo : Option Nat) (qh : Int32) (σ : CS) : Prop := σ.2.2.1 (pR18 b) u = nI w ∧ (σ.1 (fP b 3) = nI st ∧ st ≤ 400) ∧ σ.1 4008 = lpI lo ∧ σ.1 4009 = qh ∧ (sN σ 42 = 64 ∨ sN σ 42 = 16384)
theorem ZF_k (h : ZF b u w st lo qh σ) (x : XK b u nc sz mk σ σ') : ZF b u w st lo qh σ' := by
  obtain ⟨h1, h2, h3, h4, h5⟩ := h
  have pd := pR_d b
  have f3 : ¬ (fP b 3 = fP b 1 ∨ fP b 3 = fP b 11 ∨ fP b 3 = fP b 19) := by cases b <;> decide
  have fc := fP_c b 3
  refine ⟨by rw [x.2.1.1 (pR18 b) (by omega)]; exact h1, ⟨by rw [x.1.1 (fP b 3) (by omega)]; exact h2.1, h2.2⟩, ?_, ?_, by rw [x.2.1.2.1 42 (by decide)]; exact h5⟩
  · rw [x.1.1 4008 (by have := fP_c b 1; have := fP_c b 11; have := fP_c b 19; omega)]; exact h3
  · rw [x.1.1 4009 (by have := fP_c b 1; have := fP_c b 11; have := fP_c b 19; omega)]; exact h4
/-- what a method leaves, among statements -/
def ZPo (b : Bool) (u nc0 sz0 mk0 : Nat) {α : Type} (x : Fl α) (S : α → Int32 → CS → Prop) (σ0 : CS) (a1 a2 : Nat) (r : RS) : Prop := (∀ t, x = Sum.inr t → r.1.1 = 0 ∧ S t r.1.2 r.2.1) ∧ (∀ y, x = Sum.inl y → r.1.1 = 1 ∧ FltC y r.2.1) ∧ (r.1.1 = 0 → a1 + r.2.2.1 + PhC r.2.1 ≤ PhC σ0 ∧ a2 + r.2.2.2 + PhS r.2.1 ≤ PhS σ0) ∧ (¬ r.1.1 = 0 → a1 + r.2.2.1 + PhC r.2.1 ≤ PhC σ0 + 1 ∧ a2 + r.2.2.2 + PhS r.2.1 ≤ PhS σ0 + 6) ∧ ZK b u nc0 sz0 mk0 σ0 r.2.1
theorem ZPo_of {r : RS} (h : QPo b u nc0 sz0 mk0 x S σ0 a1 a2 r) : ZPo b u nc0 sz0 mk0 x S σ0 a1 a2 r := ⟨h.1, h.2.1, h.2.2.1, h.2.2.2.1, ZK_of h.2.2.2.2⟩
theorem ZPo_s {n1 n2 : Nat} {r : RS} (h : ZPo b u nc0 sz0 mk0 x S σ0 (a1 + n1) (a2 + n2) r) : ZPo b u nc0 sz0 mk0 x S σ0 a1 a2 (r.1, r.2.1, (n1 + r.2.2.1, n2 + r.2.2.2)) := by
  obtain ⟨h1, h2, h3, h4, h5⟩ := h
  refine ⟨h1, h2, fun e => ?_, fun e => ?_, h5⟩
  · have z := h3 e
    show a1 + (n1 + r.2.2.1) + PhC r.2.1 ≤ _ ∧ a2 + (n2 + r.2.2.2) + PhS r.2.1 ≤ _
    omega
  · have z := h4 e
    show a1 + (n1 + r.2.2.1) + PhC r.2.1 ≤ _ ∧ a2 + (n2 + r.2.2.2) + PhS r.2.1 ≤ _
    omega
/-- how it stands among statements: within a method that began at σ0; the code laid since szB -/
def Zy (T : Nat → Int32) (n : Nat) (b : Bool) (u al : Nat) (σ0 : CS) (nc0 sz0 mk0 a1 a2 : Nat) (tb : List Ent) (o q v mk w st : Nat) (lo : Option Nat) (qh : Int32) (szB : Nat) (cs : List Int32) (τ : CS) : Prop := (QS T n b u al tb o q v mk 0 (szB + cs.length) τ ∧ ZK b u nc0 sz0 mk0 σ0 τ ∧ (a1 + PhC τ ≤ PhC σ0 ∧ a2 + PhS τ ≤ PhS σ0) ∧ nc0 ≤ tb.length ∧ sz0 ≤ szB + cs.length ∧ mk0 ≤ mk) ∧ (∀ i, i < cs.length → cdr b τ (szB + i) = cs.getD i 0) ∧ ZF b u w st lo qh τ
theorem Zy_0 (h : QS T n b u al tb o q v mk 0 sz σ) (zf : ZF b u w st lo qh σ) : Zy T n b u al σ tb.length sz mk 0 0 tb o q v mk w st lo qh sz [] σ := ⟨⟨h, ZK_of (XK_r h), ⟨by omega, by omega⟩, Nat.le_refl _, Nat.le_refl _, Nat.le_refl _⟩, fun i hi => absurd hi (Nat.not_lt_zero _), zf⟩
theorem Zy_pp (h : Zy T n b u al σ0 nc0 sz0 mk0 a1 a2 tb o q v mk w st lo qh szB cs τ) : sPp τ = some b := h.1.1.2.2.2.2.1.1
/-- the method ends -/
theorem Zfin {t : α} (h : Zy T n b u al σ0 nc0 sz0 mk0 a1 a2 tb o q v mk w st lo qh szB cs τ) (hs : S t y τ) : ZPo b u nc0 sz0 mk0 (Sum.inr t) S σ0 a1 a2 ((0, y), τ, (0, 0)) := by
  obtain ⟨⟨h1, h2, h3, h4⟩, _⟩ := h
  refine ⟨fun t' e => by cases e; exact ⟨rfl, hs⟩, fun y e => (by cases e), fun _ => ?_, fun e => absurd rfl e, h2⟩
  show a1 + 0 + PhC τ ≤ _ ∧ a2 + 0 + PhS τ ≤ _
  omega
/-- a call within: where it throws all throws -/
theorem zt_callZ {β : Type} {z : Fl β} {R : β → Int32 → CS → Prop} {g : Nat → Option RS} {f : Nat → RS → Option RS} (h : Zy T n b u al σ0 nc0 sz0 mk0 a1 a2 tb o q v mk w st lo qh szB cs τ) (t : Tm g (ZPo b u tb.length (szB + cs.length) mk z R τ 0 0)) (hx : (∃ y, z = Sum.inl y ∧ x = Sum.inl y) ∨ ∃ s, z = Sum.inr s ∧ C ∧ ∀ (τ' : CS) (ret : Int32) (n1 n2 : Nat), R s ret τ' → ZK b u tb.length (szB + cs.length) mk τ τ' → (a1 + n1 + PhC τ' ≤ PhC σ0 ∧ a2 + n2 + PhS τ' ≤ PhS σ0) → Tm (fun k => f k ((0, ret), τ', (n1, n2))) (ZPo b u nc0 sz0 mk0 x S σ0 (a1 + n1) (a2 + n2))) : Tm (fun k => ox (g k) (f k)) (ZPo b u nc0 sz0 mk0 x S σ0 a1 a2) := by
  obtain ⟨⟨h1, h2, h3, h4, h5, h6⟩, _⟩ := h
  refine Tm_ox t (fun r w nz => ?_) (fun r w e0 => ?_)
  · rcases hx with ⟨y0, e1, e2⟩ | ⟨s, e1, _⟩
    · rw [e2]
      refine ⟨fun t' e => (by cases e), fun y1 ye => by cases ye; exact w.2.1 y0 e1, fun z => absurd z nz, fun z => ?_, ZK_t h2 w.2.2.2.2 h4 h5 h6⟩
      have y := w.2.2.2.1 z
      omega
    · exact absurd (w.1 s e1).1 nz
  · rcases hx with ⟨y0, e1, e2⟩ | ⟨s, e1, c, cont⟩
    · exact absurd (w.2.1 y0 e1).1 (by rw [e0]; decide)
    · have y := w.2.2.1 e0
      have k := cont r.2.1 r.1.2 r.2.2.1 r.2.2.2 (w.1 s e1).2 w.2.2.2.2 ⟨by omega, by omega⟩
      have er : ((0, r.1.2), r.2.1, (r.2.2.1, r.2.2.2)) = r := by
        rw [← e0]
      rw [er] at k
      exact Tm_mono k (fun q z => ZPo_s z)
theorem zt_call {β : Type} {z : Fl β} {R : β → Int32 → CS → Prop} {g : Nat → Option RS} {f : Nat → RS → Option RS} (h : Zy T n b u al σ0 nc0 sz0 mk0 a1 a2 tb o q v mk w st lo qh szB cs τ) (t : Tm g (QPo b u tb.length (szB + cs.length) mk z R τ 0 0)) (hx : (∃ y, z = Sum.inl y ∧ x = Sum.inl y) ∨ ∃ s, z = Sum.inr s ∧ C ∧ ∀ (τ' : CS) (ret : Int32) (n1 n2 : Nat), R s ret τ' → XK b u tb.length (szB + cs.length) mk τ τ' → (a1 + n1 + PhC τ' ≤ PhC σ0 ∧ a2 + n2 + PhS τ' ≤ PhS σ0) → Tm (fun k => f k ((0, ret), τ', (n1, n2))) (ZPo b u nc0 sz0 mk0 x S σ0 (a1 + n1) (a2 + n2))) : Tm (fun k => ox (g k) (f k)) (ZPo b u nc0 sz0 mk0 x S σ0 a1 a2) := by
  obtain ⟨⟨h1, h2, h3, h4, h5, h6⟩, _⟩ := h
  refine Tm_ox t (fun r w nz => ?_) (fun r w e0 => ?_)
  · rcases hx with ⟨y0, e1, e2⟩ | ⟨s, e1, _⟩
    · rw [e2]
      refine ⟨fun t' e => (by cases e), fun y1 ye => by cases ye; exact w.2.1 y0 e1, fun z => absurd z nz, fun z => ?_, ZK_t h2 (ZK_of w.2.2.2.2) h4 h5 h6⟩
      have y := w.2.2.2.1 z
      omega
    · exact absurd (w.1 s e1).1 nz
  · rcases hx with ⟨y0, e1, e2⟩ | ⟨s, e1, c, cont⟩
    · exact absurd (w.2.1 y0 e1).1 (by rw [e0]; decide)
    · have y := w.2.2.1 e0
      have k := cont r.2.1 r.1.2 r.2.2.1 r.2.2.2 (w.1 s e1).2 w.2.2.2.2 ⟨by omega, by omega⟩
      have er : ((0, r.1.2), r.2.1, (r.2.2.1, r.2.2.2)) = r := by
        rw [← e0]
      rw [er] at k
      exact Tm_mono k (fun q z => ZPo_s z)
/-- behind a call within that lays code -/
theorem Zy_ca {ll : List Int32} (h : Zy T n b u al σ0 nc0 sz0 mk0 a1 a2 tb o q v mk w st lo qh szB cs τ) {n1 n2 : Nat} {o' v' mk' : Nat} {tb' : List Ent} (hq : QS T n b u al tb' o' q' v' mk' 0 (szB + cs.length + ll.length) τ') (xk : ZK b u tb.length (szB + cs.length) mk τ τ') (c : a1 + n1 + PhC τ' ≤ PhC σ0 ∧ a2 + n2 + PhS τ' ≤ PhS σ0) (hl : ∀ i, i < ll.length → cdr b τ' (szB + cs.length + i) = ll.getD i 0) (h4 : nc0 ≤ tb'.length) (h6 : mk0 ≤ mk') (zf : ZF b u w' st' lo' qh' τ') : Zy T n b u al σ0 nc0 sz0 mk0 (a1 + n1) (a2 + n2) tb' o' q' v' mk' w' st' lo' qh' szB (cs ++ ll) τ' := by
  obtain ⟨⟨h1, h2, h3, g4, g5, g6⟩, k2, _⟩ := h
  refine ⟨⟨by rw [List.length_append, ← Nat.add_assoc]; exact hq, ZK_t h2 xk g4 g5 g6, c, h4, by rw [List.length_append]; omega, h6⟩, fun i hi => ?_, zf⟩
  rw [List.length_append] at hi
  rcases Nat.lt_or_ge i cs.length with w | w
  · have y := (xk.2.2.2.2.2.1 (szB + i) (by omega)).1
    rw [y, k2 i w, gd_l w]
  · have e := hl (i - cs.length) (by omega)
    rw [show szB + cs.length + (i - cs.length) = szB + i from by omega] at e
    rw [e]
    have g := gd_r (a := cs) (b := ll) (i - cs.length)
    rw [show cs.length + (i - cs.length) = i from by omega] at g
    exact g.symm
theorem Zy_c0 (h : Zy T n b u al σ0 nc0 sz0 mk0 a1 a2 tb o q v mk w st lo qh szB cs τ) {n1 n2 : Nat} {o' v' mk' : Nat} {tb' : List Ent} (hq : QS T n b u al tb' o' q' v' mk' 0 (szB + cs.length) τ') (xk : ZK b u tb.length (szB + cs.length) mk τ τ') (c : a1 + n1 + PhC τ' ≤ PhC σ0 ∧ a2 + n2 + PhS τ' ≤ PhS σ0) (h4 : nc0 ≤ tb'.length) (h6 : mk0 ≤ mk') (zf : ZF b u w' st' lo' qh' τ') : Zy T n b u al σ0 nc0 sz0 mk0 (a1 + n1) (a2 + n2) tb' o' q' v' mk' w' st' lo' qh' szB cs τ' := by
  have z := Zy_ca (ll := []) h hq xk c (fun i hi => absurd hi (Nat.not_lt_zero _)) h4 h6 zf
  rw [List.append_nil] at z
  exact z
theorem Zy_cx (h : Zy T n b u al σ0 nc0 sz0 mk0 a1 a2 tb o q v mk w st lo qh szB cs τ) {n1 n2 : Nat} {o' v' mk' : Nat} {tb' : List Ent} (hq : QS T n b u al tb' o' q' v' mk' 0 (szB + cs.length) τ') (xk : XK b u tb.length (szB + cs.length) mk τ τ') (c : a1 + n1 + PhC τ' ≤ PhC σ0 ∧ a2 + n2 + PhS τ' ≤ PhS σ0) (h4 : nc0 ≤ tb'.length) (h6 : mk0 ≤ mk') : Zy T n b u al σ0 nc0 sz0 mk0 (a1 + n1) (a2 + n2) tb' o' q' v' mk' w st lo qh szB cs τ' := Zy_c0 h hq (ZK_of xk) c h4 h6 (ZF_k h.2.2 xk)
theorem Zy_cl {ll : List Int32} (h : Zy T n b u al σ0 nc0 sz0 mk0 a1 a2 tb o q v mk w st lo qh szB cs τ) {n1 n2 : Nat} {o' v' mk' : Nat} {tb' : List Ent} (hq : QS T n b u al tb' o' q' v' mk' 0 (szB + cs.length + ll.length) τ') (xk : XK b u tb.length (szB + cs.length) mk τ τ') (c : a1 + n1 + PhC τ' ≤ PhC σ0 ∧ a2 + n2 + PhS τ' ≤ PhS σ0) (hl : ∀ i, i < ll.length → cdr b τ' (szB + cs.length + i) = ll.getD i 0) (h4 : nc0 ≤ tb'.length) (h6 : mk0 ≤ mk') : Zy T n b u al σ0 nc0 sz0 mk0 (a1 + n1) (a2 + n2) tb' o' q' v' mk' w st lo qh szB (cs ++ ll) τ' := Zy_ca h hq (ZK_of xk) c hl h4 h6 (ZF_k h.2.2 xk)
/-- what is refused is thrown -/
theorem zt_ref {cd pl : Nat} {f : Nat → RS → Option RS} (h : Zy T n b u al σ0 nc0 sz0 mk0 a1 a2 tb o q v mk w st lo qh szB cs τ) (c1 : L.1 1 = nI cd) (c2 : L.1 2 = nI pl) (hc : 1 ≤ cd ∧ cd ≤ 8) : Tm (fun k => ox (f_X5_refuse k 0 L τ) (f k)) (ZPo b u nc0 sz0 mk0 (Sum.inl (cd, pl) : Fl α) S σ0 a1 a2) := by
  obtain ⟨⟨h1, h2, h3, h4, h5, h6⟩, _⟩ := h
  have z := st_ref (α := α) (S := S) (f := f) (L := L) (Sx_0 h1) c1 c2 hc
  refine Tm_mono z (fun r w => ⟨fun t' e => (by cases e), fun y ye => by cases ye; exact w.2.1 _ rfl, fun e => absurd (w.2.1 _ rfl).1 (by rw [e]; decide), fun e => ?_, ZK_t h2 (ZK_of w.2.2.2.2) h4 h5 h6⟩)
  have y := w.2.2.2.1 e
  omega
theorem zt_emit {op : Nat} {f : Nat → RS → Option RS} (h : Zy T n b u al σ0 nc0 sz0 mk0 a1 a2 tb o q v mk w st lo qh szB cs τ) (hb : L.2.2.1 0 = b) (h1 : L.1 1 = nI op) (hm : szB + cs.length + 1 ≤ 36864) (cont : ∀ (τ' : CS) (n1 n2 : Nat), Zy T n b u al σ0 nc0 sz0 mk0 (a1 + n1) (a2 + n2) tb o q v mk w st lo qh szB (cs ++ [em op (L.1 2)]) τ' → XK b u tb.length (szB + cs.length) mk τ τ' → Tm (fun k => f k ((0, nI (szB + cs.length)), τ', (n1, n2))) (ZPo b u nc0 sz0 mk0 x S σ0 (a1 + n1) (a2 + n2))) : Tm (fun k => ox (f_X7_emit__P k 0 L τ) (f k)) (ZPo b u nc0 sz0 mk0 x S σ0 a1 a2) := by
  refine Tm_ox (c_emit h.1.1.2.1 hb hm) (fun r w nz => absurd (by rw [w.1]) nz) (fun r w e0 => ?_)
  obtain ⟨w1, ⟨w2, w2'⟩, w3⟩ := w
  rw [h1] at w3
  obtain ⟨q1, q2⟩ := QS_cd h.1.1 w3
  have hc := h.1.2.2.1
  have k := cont r.2.1 r.2.2.1 r.2.2.2 (Zy_cl h q1 q2 ⟨by omega, by omega⟩ w3.2.2.2 h.1.2.2.2.1 h.1.2.2.2.2.2) q2
  have er : ((0, nI (szB + cs.length)), r.2.1, (r.2.2.1, r.2.2.2)) = r := by rw [← w1]
  rw [er] at k
  exact Tm_mono k (fun q z => ZPo_s z)
theorem zt_word {f : Nat → RS → Option RS} (h : Zy T n b u al σ0 nc0 sz0 mk0 a1 a2 tb o q v mk w st lo qh szB cs τ) (hb : L.2.2.1 0 = b) (hm : szB + cs.length + 1 ≤ 36864) (cont : ∀ (τ' : CS) (n1 n2 : Nat), Zy T n b u al σ0 nc0 sz0 mk0 (a1 + n1) (a2 + n2) tb o q v mk w st lo qh szB (cs ++ [L.1 1]) τ' → XK b u tb.length (szB + cs.length) mk τ τ' → Tm (fun k => f k ((0, nI (szB + cs.length)), τ', (n1, n2))) (ZPo b u nc0 sz0 mk0 x S σ0 (a1 + n1) (a2 + n2))) : Tm (fun k => ox (f_X7_word__P k 0 L τ) (f k)) (ZPo b u nc0 sz0 mk0 x S σ0 a1 a2) := by
  refine Tm_ox (c_word h.1.1.2.1 hb hm) (fun r w nz => absurd (by rw [w.1]) nz) (fun r w e0 => ?_)
  obtain ⟨w1, ⟨w2, w2'⟩, w3⟩ := w
  obtain ⟨q1, q2⟩ := QS_cd h.1.1 w3
  have hc := h.1.2.2.1
  have k := cont r.2.1 r.2.2.1 r.2.2.2 (Zy_cl h q1 q2 ⟨by omega, by omega⟩ w3.2.2.2 h.1.2.2.2.1 h.1.2.2.2.2.2) q2
  have er : ((0, nI (szB + cs.length)), r.2.1, (r.2.2.1, r.2.2.2)) = r := by rw [← w1]
  rw [er] at k
  exact Tm_mono k (fun q z => ZPo_s z)
theorem zt_mark {f : Nat → RS → Option RS} (h : Zy T n b u al σ0 nc0 sz0 mk0 a1 a2 tb o q v mk w st lo qh szB cs τ) (hm : mk + 1 ≤ 21504) (cont : ∀ (τ' : CS) (n1 n2 : Nat), Zy T n b u al σ0 nc0 sz0 mk0 (a1 + n1) (a2 + n2) tb o q v (mk + 1) w st lo qh szB cs τ' → XK b u tb.length (szB + cs.length) mk τ τ' → τ'.2.2.1 41 mk = L.1 1 → Tm (fun k => f k ((0, nI mk), τ', (n1, n2))) (ZPo b u nc0 sz0 mk0 x S σ0 (a1 + n1) (a2 + n2))) : Tm (fun k => ox (f_X5_mark k 0 L τ) (f k)) (ZPo b u nc0 sz0 mk0 x S σ0 a1 a2) := by
  refine Tm_ox (c_mark h.1.1.2.2.1 hm) (fun r w nz => absurd (by rw [w.1]) nz) (fun r w e0 => ?_)
  obtain ⟨w1, ⟨w2, w2'⟩, w3⟩ := w
  obtain ⟨q1, q2⟩ := QS_mk h.1.1 w3
  have hc := h.1.2.2.1
  have h6 := h.1.2.2.2.2.2
  have k := cont r.2.1 r.2.2.1 r.2.2.2 (Zy_cx h q1 q2 ⟨by omega, by omega⟩ h.1.2.2.2.1 (by show mk0 ≤ mk + 1; omega)) q2 (w3.2.2.2 0 (by show 0 < 1; decide))
  have er : ((0, nI mk), r.2.1, (r.2.2.1, r.2.2.2)) = r := by rw [← w1]
  rw [er] at k
  exact Tm_mono k (fun q z => ZPo_s z)
theorem zt_opens {f : Nat → RS → Option RS} (h : Zy T n b u al σ0 nc0 sz0 mk0 a1 a2 tb o q v mk w st lo qh szB cs τ) (hx : (¬ (¬ o = 20 ∧ ¬ tkK T n (tkN T n q) = 0) ∧ x = Sum.inl (oF T n o q)) ∨ ((¬ o = 20 ∧ ¬ tkK T n (tkN T n q) = 0) ∧ C)) (cont : ∀ (τ' : CS) (ret : Int32) (n1 n2 : Nat), C → Zy T n b u al σ0 nc0 sz0 mk0 (a1 + n1) (a2 + n2) tb (o + 1) (tkN T n q) v mk w st lo qh szB cs τ' → XK b u tb.length (szB + cs.length) mk τ τ' → Tm (fun k => f k ((0, ret), τ', (n1, n2))) (ZPo b u nc0 sz0 mk0 x S σ0 (a1 + n1) (a2 + n2))) : Tm (fun k => ox (f_X5_opens k 0 L τ) (f k)) (ZPo b u nc0 sz0 mk0 x S σ0 a1 a2) := by
  rcases hx with ⟨w1, w2⟩ | ⟨w1, c⟩
  · exact zt_call (C := True) h (c_opensQ h.1.1 (Or.inl ⟨w1, rfl⟩)) (Or.inl ⟨_, rfl, w2⟩)
  · exact zt_call (C := C) h (c_opensQ h.1.1 (Or.inr ⟨w1, rfl⟩)) (Or.inr ⟨_, rfl, c, fun τ' ret n1 n2 hq xk hc => cont τ' ret n1 n2 c (Zy_cx h hq xk hc h.1.2.2.2.1 h.1.2.2.2.2.2) xk⟩)
theorem zt_closes {f : Nat → RS → Option RS} (h : Zy T n b u al σ0 nc0 sz0 mk0 a1 a2 tb (o + 1) q v mk w st lo qh szB cs τ) (hk : tkV kk) (h1 : L.1 1 = cKd kk) (hx : (¬ (tkK T n q = kk ∧ ¬ tkK T n (tkN T n q) = 0) ∧ x = Sum.inl (wF T n kk q)) ∨ ((tkK T n q = kk ∧ ¬ tkK T n (tkN T n q) = 0) ∧ C)) (cont : ∀ (τ' : CS) (ret : Int32) (n1 n2 : Nat), C → Zy T n b u al σ0 nc0 sz0 mk0 (a1 + n1) (a2 + n2) tb o (tkN T n q) v mk w st lo qh szB cs τ' → XK b u tb.length (szB + cs.length) mk τ τ' → Tm (fun k => f k ((0, ret), τ', (n1, n2))) (ZPo b u nc0 sz0 mk0 x S σ0 (a1 + n1) (a2 + n2))) : Tm (fun k => ox (f_X5_closes k 0 L τ) (f k)) (ZPo b u nc0 sz0 mk0 x S σ0 a1 a2) := by
  rcases hx with ⟨w1, w2⟩ | ⟨w1, c⟩
  · exact zt_call (C := True) h (c_closesQ h.1.1 hk h1 (Or.inl ⟨w1, rfl⟩)) (Or.inl ⟨_, rfl, w2⟩)
  · exact zt_call (C := C) h (c_closesQ h.1.1 hk h1 (Or.inr ⟨w1, rfl⟩)) (Or.inr ⟨_, rfl, c, fun τ' ret n1 n2 hq xk hc => cont τ' ret n1 n2 c (Zy_cx h hq xk hc h.1.2.2.2.1 h.1.2.2.2.2.2) xk⟩)
theorem zt_expect {f : Nat → RS → Option RS} (h : Zy T n b u al σ0 nc0 sz0 mk0 a1 a2 tb o q v mk w st lo qh szB cs τ) (hk : tkV kk) (h1 : L.1 1 = cKd kk) (hx : (¬ (tkK T n q = kk ∧ ¬ tkK T n (tkN T n q) = 0) ∧ x = Sum.inl (wF T n kk q)) ∨ ((tkK T n q = kk ∧ ¬ tkK T n (tkN T n q) = 0) ∧ C)) (cont : ∀ (τ' : CS) (ret : Int32) (n1 n2 : Nat), C → Zy T n b u al σ0 nc0 sz0 mk0 (a1 + n1) (a2 + n2) tb o (tkN T n q) v mk w st lo qh szB cs τ' → XK b u tb.length (szB + cs.length) mk τ τ' → Tm (fun k => f k ((0, ret), τ', (n1, n2))) (ZPo b u nc0 sz0 mk0 x S σ0 (a1 + n1) (a2 + n2))) : Tm (fun k => ox (f_X5_expect k 0 L τ) (f k)) (ZPo b u nc0 sz0 mk0 x S σ0 a1 a2) := by
  rcases hx with ⟨w1, w2⟩ | ⟨w1, c⟩
  · exact zt_call (C := True) h (c_expectQ h.1.1 hk h1 (Or.inl ⟨w1, rfl⟩)) (Or.inl ⟨_, rfl, w2⟩)
  · exact zt_call (C := C) h (c_expectQ h.1.1 hk h1 (Or.inr ⟨w1, rfl⟩)) (Or.inr ⟨_, rfl, c, fun τ' ret n1 n2 hq xk hc => cont τ' ret n1 n2 c (Zy_cx h hq xk hc h.1.2.2.2.1 h.1.2.2.2.2.2) xk⟩)
theorem zt_want {f : Nat → RS → Option RS} (h : Zy T n b u al σ0 nc0 sz0 mk0 a1 a2 tb o q v mk w st lo qh szB cs τ) (hk : tkV kk) (h1 : L.1 1 = cKd kk) (hx : (¬ tkK T n q = kk ∧ x = Sum.inl (2, q)) ∨ (tkK T n q = kk ∧ C)) (cont : ∀ (ret : Int32) (n1 n2 : Nat), C → Zy T n b u al σ0 nc0 sz0 mk0 (a1 + n1) (a2 + n2) tb o q v mk w st lo qh szB cs τ → Tm (fun k => f k ((0, ret), τ, (n1, n2))) (ZPo b u nc0 sz0 mk0 x S σ0 (a1 + n1) (a2 + n2))) : Tm (fun k => ox (f_X5_want k 0 L τ) (f k)) (ZPo b u nc0 sz0 mk0 x S σ0 a1 a2) := by
  rcases hx with ⟨w1, w2⟩ | ⟨w1, c⟩
  · exact zt_call (C := True) h (c_wantQ h.1.1 hk h1 (Or.inl ⟨w1, rfl⟩)) (Or.inl ⟨_, rfl, w2⟩)
  · exact zt_call (C := C) h (c_wantQ h.1.1 hk h1 (Or.inr ⟨w1, rfl⟩)) (Or.inr ⟨_, rfl, c, fun τ' ret n1 n2 hq xk hc => by
      subst hq
      exact cont ret n1 n2 c (Zy_cx h h.1.1 xk hc h.1.2.2.2.1 h.1.2.2.2.2.2)⟩)
theorem c_advX (h1 : QS T n b u al tb o q v mk p sz τ) {x : Fl Nat} (hx : (tkK T n (tkN T n q) = 0 ∧ x = Sum.inl (1, tkN T n q)) ∨ (¬ tkK T n (tkN T n q) = 0 ∧ x = Sum.inr (tkN T n q))) : Tm (fun k => f_X2_advance k 0 L τ) (QPo b u tb.length sz mk x (fun q' _ τ' => QS T n b u al tb o q' v mk p sz τ') τ 0 0) := by
  refine Tm_mono (c_advQ h1) (fun r w => ?_)
  obtain ⟨w1, w2, w3, w4⟩ := w
  rcases hx with ⟨e1, e2⟩ | ⟨e1, e2⟩
  · have z := w1 e1
    refine ⟨fun t e => (by rw [e2] at e; cases e), fun y e => (by rw [e2] at e; cases e; exact z), fun e => absurd e (by rw [z.1]; decide), fun e => ?_, w4⟩
    have y := w3.2 e
    omega
  · obtain ⟨z1, z2⟩ := w2 e1
    refine ⟨fun t e => by rw [e2] at e; cases e; exact ⟨z1, z2⟩, fun y e => (by rw [e2] at e; cases e), fun e => ?_, fun e => absurd z1 e, w4⟩
    have y := w3.1 e
    have y1 := y.1
    have y2 := y.2
    omega
theorem zt_adv {f : Nat → RS → Option RS} (h : Zy T n b u al σ0 nc0 sz0 mk0 a1 a2 tb o q v mk w st lo qh szB cs τ) (hx : (tkK T n (tkN T n q) = 0 ∧ x = Sum.inl (1, tkN T n q)) ∨ (¬ tkK T n (tkN T n q) = 0 ∧ C)) (cont : ∀ (τ' : CS) (ret : Int32) (n1 n2 : Nat), C → Zy T n b u al σ0 nc0 sz0 mk0 (a1 + n1) (a2 + n2) tb o (tkN T n q) v mk w st lo qh szB cs τ' → XK b u tb.length (szB + cs.length) mk τ τ' → Tm (fun k => f k ((0, ret), τ', (n1, n2))) (ZPo b u nc0 sz0 mk0 x S σ0 (a1 + n1) (a2 + n2))) : Tm (fun k => ox (f_X2_advance k 0 L τ) (f k)) (ZPo b u nc0 sz0 mk0 x S σ0 a1 a2) := by
  rcases hx with ⟨w1, w2⟩ | ⟨w1, c⟩
  · exact zt_call (C := True) h (c_advX h.1.1 (Or.inl ⟨w1, rfl⟩)) (Or.inl ⟨_, rfl, w2⟩)
  · exact zt_call (C := C) h (c_advX h.1.1 (Or.inr ⟨w1, rfl⟩)) (Or.inr ⟨_, rfl, c, fun τ' ret n1 n2 hq xk hc => cont τ' ret n1 n2 c (Zy_cx h hq xk hc h.1.2.2.2.1 h.1.2.2.2.2.2) xk⟩)
/-- an exp within -/
theorem zt_exp {f : Nat} {f' : Nat → RS → Option RS} {bt : BT} {z : Fl RT} (h : Zy T n b u al σ0 nc0 sz0 mk0 a1 a2 tb o q v mk w st lo qh szB cs τ) (ev : EvX E b u al gl Vm tb τ) (bd : BdX n o q v mk 0 (szB + cs.length) tb.length) (h1 : L.1 1 = 0) (hG : G T n f 0 E o q v 0 0 0 0 bt = some z) (hx : (∃ y, z = Sum.inl y ∧ x = Sum.inl y) ∨ ∃ s, z = Sum.inr s ∧ C) (cont : ∀ (τ' : CS) (ret : Int32) (n1 n2 : Nat) (r : RT) (ll : List Int32), z = Sum.inr r → C → Zy T n b u al σ0 nc0 sz0 mk0 (a1 + n1) (a2 + n2) tb o r.1 r.2.1 mk w st lo qh szB (cs ++ ll) τ' → XK b u tb.length (szB + cs.length) mk τ τ' → Sgm u 0 gl Vm 1 ll → 2 * ll.length ≤ 3 * (r.1 - q) + 1 → q < r.1 → v ≤ r.2.1 → TgI T n u 0 gl Vm tb q (szB + cs.length) mk ll r.2.2.1 τ' → Tm (fun k => f' k ((0, ret), τ', (n1, n2))) (ZPo b u nc0 sz0 mk0 x S σ0 (a1 + n1) (a2 + n2))) : Tm (fun k => ox (f_X5_exp k 0 L τ) (f' k)) (ZPo b u nc0 sz0 mk0 x S σ0 a1 a2) := by
  refine zt_call (C := C) h (px_all f 400 0 0 (Or.inl ⟨rfl, rfl⟩) E o q v bt z hG gl Vm tb mk 0 (szB + cs.length) τ L h.1.1 ev bd h1 (by omega)) ?_
  rcases hx with ⟨y0, w1, w2⟩ | ⟨s, w1, c⟩
  · exact Or.inl ⟨y0, w1, w2⟩
  · refine Or.inr ⟨s, w1, c, fun τ' ret n1 n2 hr xk hc => ?_⟩
    obtain ⟨ll, r1, r2, r3, r4, r5, r6, r7⟩ := hr
    exact cont τ' ret n1 n2 s ll w1 c (Zy_cl h r1 xk hc r2 h.1.2.2.2.1 h.1.2.2.2.2.2) xk r3 r4 r5 r6 r7
/-- PUSH om -/
theorem zt_push {f : Nat → RS → Option RS} (h : Zy T n b u al σ0 nc0 sz0 mk0 a1 a2 tb o q v mk w st lo qh szB cs τ) (hv : LitG (L.1 1)) (hm : szB + cs.length + 2 ≤ 36864) (cont : ∀ (τ' : CS) (ret : Int32) (n1 n2 : Nat), Zy T n b u al σ0 nc0 sz0 mk0 (a1 + n1) (a2 + n2) tb o q v mk w st lo qh szB (cs ++ [em 32 0, L.1 1]) τ' → XK b u tb.length (szB + cs.length) mk τ τ' → Tm (fun k => f k ((0, ret), τ', (n1, n2))) (ZPo b u nc0 sz0 mk0 x S σ0 (a1 + n1) (a2 + n2))) : Tm (fun k => ox (f_X5_push k 0 L τ) (f k)) (ZPo b u nc0 sz0 mk0 x S σ0 a1 a2) := by
  refine zt_call (C := True) h (c_pushQ h.1.1 hv hm) (Or.inr ⟨(), rfl, trivial, fun τ' ret n1 n2 hr xk hc => ?_⟩)
  obtain ⟨l2, r1, r2, r3, r4⟩ := hr
  subst r4
  exact cont τ' ret n1 n2 (Zy_cl h r2 xk hc r3 h.1.2.2.2.1 h.1.2.2.2.2.2) xk
/-- the state alone, as if it began here -/
theorem Sy_z (h : Zy T n b u al σ0 nc0 sz0 mk0 a1 a2 tb o q v mk w st lo qh szB cs τ) : Sy T n b u al τ tb.length szB mk 0 0 tb o q v mk 0 szB cs τ := by
  obtain ⟨⟨h1, h2, h3, h4, h5, h6⟩, h7, h8⟩ := h
  refine ⟨⟨h1, ?_, ⟨by omega, by omega⟩, Nat.le_refl _, Nat.le_add_right _ _, Nat.le_refl _⟩, h7⟩
  have z := XK_r h1
  obtain ⟨d1, d2, d3, d4, d5, d6, d7, d8, d9⟩ := z
  exact ⟨d1, d2, d3, d4, d5, fun i hi => ⟨rfl, rfl⟩, d7, ⟨by omega, d8.2⟩, d9⟩
/-- and back: what a piece without statements of its own did -/
theorem Zy_s {n1 n2 o' v' mk' : Nat} {tb' : List Ent} (h : Zy T n b u al σ0 nc0 sz0 mk0 a1 a2 tb o q v mk w st lo qh szB cs τ) (s : Sy T n b u al τ tb.length szB mk n1 n2 tb' o' q' v' mk' 0 szB cs' τ') (h0 : sz0 ≤ szB) : Zy T n b u al σ0 nc0 sz0 mk0 (a1 + n1) (a2 + n2) tb' o' q' v' mk' w st lo qh szB cs' τ' := by
  obtain ⟨⟨h1, h2, h3, h4, h5, h6⟩, h7, h8⟩ := h
  obtain ⟨⟨s1, s2, s3, s4, s5, s6⟩, s7⟩ := s
  exact ⟨⟨s1, ZK_t h2 (ZK_of s2) h4 h0 h6, ⟨by omega, by omega⟩, by omega, by omega, by omega⟩, s7, ZF_k h8 s2⟩
/-- fields of the parser's own are set -/
theorem QS_g (h : QS T n b u al tb o q v mk p sz σ) {o' mk' p' : Nat} (f1 : ∀ j, ¬ (j = 404 ∨ (4005 ≤ j ∧ j ≤ 4020 ∧ ¬ j = 4006) ∨ j = fP b 3 ∨ j = fP b 19) → σ'.1 j = σ.1 j) (f2 : σ'.2 = σ.2) (e5 : σ'.1 4005 = nI o') (ho : o' ≤ 20) (e11 : σ'.1 4011 = nI mk') (hm : mk' ≤ mk) (e19 : σ'.1 (fP b 19) = nI p') : QS T n b u al tb o' q v mk' p' sz σ' ∧ ZK b u tb.length sz mk' σ σ' := by
  obtain ⟨h1, h2, h3, h4, ⟨h5, h5', h5''⟩, ⟨h6, h6'⟩, ⟨h7, h7'⟩, h8⟩ := h
  have fc1 := fP_c b 1
  have fc2 := fP_c b 11
  have fc3 := fP_c b 19
  have fc4 := fP_c b 3
  have n1 := fP_ne b (i := 1) (j := 3) (by decide)
  have n2 := fP_ne b (i := 1) (j := 19) (by decide)
  have n3 := fP_ne b (i := 11) (j := 3) (by decide)
  have n4 := fP_ne b (i := 11) (j := 19) (by decide)
  have sn : ∀ k, sN σ' k = sN σ k := fun k => by show σ'.2.2.2.2.1 k = _; rw [f2]
  have kd : ∀ c, sKd σ' c = sKd σ c := fun c => by show σ'.2.2.2.2.2.1.2.2.2.2 c = _; rw [f2]
  have cl := CdL_s h2 (f1 _ (by omega)) (kd b) ⟨sn 43, sn 51⟩
  have m3 := h3.2
  refine ⟨⟨LxQ_s h1 (fun j _ hj => f1 j (by omega)) (by rw [f2]; exact ⟨rfl, rfl⟩) (by rw [f2]) (sn 38) (by rw [f2]), cl, ⟨e11, by rw [sn]; omega, by rw [sn]; exact m3.2⟩, TbR_s h4 (f1 _ (by omega)) (by rw [f2]) (by rw [f2]) (by rw [f2]) (by rw [f2]) (by rw [f2]) (by rw [f2]), ⟨by show σ'.2.2.2.2.2.1.2.2.2.1 = _; rw [f2]; exact h5, by rw [f1 _ (by omega)]; exact h5', ⟨by rw [f1 _ (by omega)]; exact h5''.1, by rw [f1 _ (by omega)]; exact h5''.2⟩⟩, ⟨e5, ho⟩, ⟨by rw [f2]; exact h7, h7'⟩, e19⟩, ?_⟩
  refine ⟨⟨fun j hj => f1 j (by omega), fun j _ => by rw [f2]⟩, ⟨fun k hk => by rw [f2], fun k hk => sn k, fun k _ => by rw [f2]⟩, ⟨⟨by show σ'.2.2.2.2.2.1.1 = _; rw [f2], by show σ'.2.2.2.2.2.1.2.1 = _; rw [f2], by show σ'.2.2.2.2.2.1.2.2.1 = _; rw [f2], by show σ'.2.2.2.2.2.1.2.2.2.1 = _; rw [f2]⟩, fun c _ => kd c, by rw [f2]⟩, fun i _ => by rw [f2]; exact ⟨rfl, rfl⟩, fun i hi => by rw [f2]; exact ⟨⟨rfl, rfl⟩, ⟨rfl, rfl⟩, rfl, rfl⟩, fun i _ => ⟨?_, ?_⟩, fun i _ => by rw [f2], cl.2, ⟨by rw [sn]; omega, by rw [sn]; exact m3.2⟩, Or.inl (sn 42)⟩
  · show σ'.2.2.1 (pR0 (sKd σ' b)) i = _; rw [kd b, f2]
  · show σ'.2.2.1 (pR0 (sKd σ' (!b))) i = _; rw [kd (!b), f2]
theorem Zy_g {mk' : Nat} (h : Zy T n b u al σ0 nc0 sz0 mk0 a1 a2 tb o q v mk w st lo qh szB cs τ) (f1 : ∀ j, ¬ ((4007 ≤ j ∧ j ≤ 4020) ∨ j = fP b 3) → τ'.1 j = τ.1 j) (f2 : τ'.2 = τ.2) (e11 : τ'.1 4011 = nI mk') (hm : mk' ≤ mk) (h0 : mk0 ≤ mk') (zf : ZF b u w' st' lo' qh' τ') : Zy T n b u al σ0 nc0 sz0 mk0 a1 a2 tb o q v mk' w' st' lo' qh' szB cs τ' := by
  obtain ⟨⟨h1, h2, h3, h4, h5, h6⟩, h7, h8⟩ := h
  have ph := Ph_s (σ := τ) (σ' := τ') (by rw [f2])
  have n4 := fP_ne b (i := 19) (j := 3) (by decide)
  have fc3 := fP_c b 19
  have fc4 := fP_c b 3
  obtain ⟨q1, q2⟩ := QS_g (p' := 0) (o' := o) h1 (fun j hj => f1 j (by omega)) f2 (by rw [f1 _ (by omega)]; exact h1.2.2.2.2.2.1.1) h1.2.2.2.2.2.1.2 e11 hm (by rw [f1 _ (by omega)]; exact h1.2.2.2.2.2.2.2)
  refine ⟨⟨q1, ZK_t h2 q2 h4 h5 h0, ⟨by omega, by omega⟩, h4, h5, h0⟩, fun i hi => ?_, zf⟩
  have kd : sKd τ' b = sKd τ b := by show τ'.2.2.2.2.2.1.2.2.2.2 b = _; rw [f2]
  show τ'.2.2.1 (pR0 (sKd τ' b)) (szB + i) = _
  rw [kd, f2]
  exact h7 i hi
end CXA
end JnS485
