/-! The class: statements, typed. -/
section CWI
variable {c c' c1 c2 : Ct} {O O' H H' : Nat → Prop} {u nu nu' pc ln R R' re p d rk k op w n m m' q t x y x1 x2 g s N Bd Bd' ns na nb pl ρ : Nat} {r pre ms ms' : List Nat} {x0 v : Int32} {Vm : Nat → Prop} {Pc : Nat → Nat → Prop} {cs ins a b tl o : List Int32} {gl : Nat × (Nat → Nat → Prop)} {C : Nat → Int32} {qs qa qb : List Nat} {lo : Option Nat}
/-- the loop around: where its next turn begins -/
def LpC (O : Nat → Prop) (c : Ct) (u w : Nat) (ms : List Nat) (lo : Option Nat) : Prop := ∀ P0, lo = some P0 → P0 < tcN c ∧ ¬ O P0 ∧ ∃ ms0 r0, (∀ i, i ∈ ms0 → i ∈ ms) ∧ r0 ≤ 999 ∧ tcD c P0 = some (u, 0, (bsl + w) :: ms0, r0)
theorem LpC_k {C : Nat → Int32} {N' : Nat} {D : Nat → Option (Nat × Nat × List Nat × Nat)} (h : LpC O c u w ms lo) (hN : tcN c ≤ N') (hD : ∀ q y, tcD c q = some y → D q = some y) : LpC O (mkc c C N' D) u w ms lo := fun P0 e => by
  obtain ⟨z1, z2, ms0, r0, z3, z4, z5⟩ := h P0 e
  exact ⟨by show P0 < N'; omega, z2, ms0, r0, z3, z4, hD _ _ z5⟩
/-- statements laid at N: they begin and end at a rank below the others; quits wait -/
def Stm (u : Nat) (gl : Nat × (Nat → Nat → Prop)) (Pc : Nat → Nat → Prop) (Vm : Nat → Prop) (w N : Nat) (lo : Option Nat) (Bd ns : Nat) (qs : List Nat) (cs : List Int32) : Prop := ((∀ h, h ∈ qs → h < cs.length) ∧ qs.Pairwise (fun a b => ¬ a = b)) ∧ ∀ (O H : Nat → Prop) (nu R ρ : Nat) (c : Ct) (ms : List Nat) (C : Nat → Int32), TI O H nu R c → tcN c = N → (∀ q, N ≤ q → ¬ O q) → tcD c N = some (u, 0, (bsl + w) :: ms, ρ) → StC O u gl Pc Vm nu c w ms → LpC O c u w ms lo → 1000 + cs.length + ns ≤ R → R ≤ RK → 2 ≤ ρ → ρ + Bd ≤ 999 → N + cs.length ≤ 36864 → (∀ i, i < N → C i = tcC c i) → (∀ i, i < cs.length → ¬ i ∈ qs → C (N + i) = cs.getD i 0) → ∃ D, TI O (fun q => H q ∨ ∃ h, h ∈ qs ∧ q = N + h) nu (R - cs.length - ns) (mkc c C (N + cs.length) D) ∧ (∀ q, q ≤ N → D q = tcD c q) ∧ D (N + cs.length) = some (u, 0, (bsl + w) :: ms, ρ) ∧ ∀ h, h ∈ qs → ∃ rk, 1000 ≤ rk ∧ rk ≤ RK ∧ D (N + h) = some (u, 0, (bsl + w) :: ms, rk)
theorem Stm_nil : Stm u gl Pc Vm w N lo Bd 0 [] [] := by
  refine ⟨⟨fun h z => absurd z List.not_mem_nil, List.Pairwise.nil⟩, fun O H nu R ρ c ms C ti eN no hD cn lp hR1 hR2 h2 hB hN hC1 hC2 => ⟨tcD c, ?_, fun _ _ => rfl, hD, fun h z => absurd z List.not_mem_nil⟩⟩
  subst eN
  refine TI_h ?_ (H := H) (fun q => ⟨fun z => z.elim id (fun ⟨h, y, _⟩ => absurd y List.not_mem_nil), Or.inl⟩)
  exact TI_tb (y := tcD c (tcN c)) (On := False) (nu' := nu) ti hC1 rfl (fun u => Or.inl (CtG_r O u nu c)) (Nat.le_refl _) (Or.inr rfl) (fun q => by
    show tcD c q = _
    by_cases z : q = tcN c
    · rw [if_pos z, z]
    · rw [if_neg z]) (fun q => ⟨Or.inl, fun z => z.elim id (fun w => w.2.elim)⟩) (fun z => z.elim) (Nat.le_refl _)
/-- one behind another -/
theorem Stm_seq (h1 : Stm u gl Pc Vm w N lo Bd na qa a) (h2 : Stm u gl Pc Vm w (N + a.length) lo Bd nb qb b) : Stm u gl Pc Vm w N lo Bd (na + nb) (qa ++ qb.map (fun i => a.length + i)) (a ++ b) := by
  obtain ⟨⟨p1, p2⟩, h1⟩ := h1
  obtain ⟨⟨p3, p4⟩, h2⟩ := h2
  have la : (a ++ b).length = a.length + b.length := List.length_append
  have mm : ∀ h, h ∈ qb.map (fun i => a.length + i) ↔ ∃ i, i ∈ qb ∧ h = a.length + i := fun h => by
    rw [List.mem_map]
    exact ⟨fun ⟨i, z1, z2⟩ => ⟨i, z1, z2.symm⟩, fun ⟨i, z1, z2⟩ => ⟨i, z1, z2.symm⟩⟩
  refine ⟨⟨fun h z => ?_, ?_⟩, fun O H nu R ρ c ms C ti eN no hD cn lp hR1 hR2 h2' hB hN hC1 hC2 => ?_⟩
  · rw [la]
    rcases List.mem_append.1 z with y | y
    · have := p1 h y; omega
    · obtain ⟨i, y1, y2⟩ := (mm h).1 y
      have := p3 i y1; omega
  · rw [List.pairwise_append]
    refine ⟨p2, ?_, fun i hi j hj e => ?_⟩
    · rw [List.pairwise_map]
      exact List.Pairwise.imp (fun z y => z (by omega)) p4
    · obtain ⟨k, y1, y2⟩ := (mm j).1 hj
      have := p1 i hi
      omega
  rw [la] at hR1 hN hC2 ⊢
  obtain ⟨D1, t1, e1, f1, g1⟩ := h1 O H nu R ρ c ms C ti eN no hD cn lp (by omega) hR2 h2' hB (by omega) hC1 (fun i hi hn => by
    rw [hC2 i (by omega) (fun z => ?_), gd_l hi]
    rcases List.mem_append.1 z with y | y
    · exact hn y
    · obtain ⟨k, _, y2⟩ := (mm i).1 y; omega)
  have e1' : ∀ q, q ≤ tcN c → D1 q = tcD c q := fun q hq => e1 q (by omega)
  have dd := dd_of ti e1'
  obtain ⟨D2, t2, e2, f2, g2⟩ := h2 O (fun q => H q ∨ ∃ h, h ∈ qa ∧ q = N + h) nu (R - a.length - na) ρ (mkc c C (N + a.length) D1) ms C t1 rfl (fun q hq => no q (by omega)) f1 (StC_k cn dd) (LpC_k lp (by omega) dd) (by omega) (by omega) h2' hB (by omega) (fun _ _ => rfl) (fun i hi hn => by
    rw [Nat.add_assoc, hC2 (a.length + i) (by omega) (fun z => ?_), gd_r]
    rcases List.mem_append.1 z with y | y
    · have := p1 _ y; omega
    · obtain ⟨k, y1, y2⟩ := (mm _).1 y
      exact hn (by rw [show i = k by omega]; exact y1))
  have er : R - a.length - na - b.length - nb = R - (a.length + b.length) - (na + nb) := by omega
  rw [er] at t2
  refine ⟨D2, ?_, fun q hq => ?_, ?_, fun h hh => ?_⟩
  · rw [← Nat.add_assoc]
    refine TI_h t2 (fun q => ?_)
    constructor
    · rintro (z | ⟨h, hh, hq⟩)
      · exact Or.inl (Or.inl z)
      · rcases List.mem_append.1 hh with y | y
        · exact Or.inl (Or.inr ⟨h, y, hq⟩)
        · obtain ⟨k, y1, y2⟩ := (mm h).1 y
          exact Or.inr ⟨k, y1, by omega⟩
    · rintro ((z | ⟨h, hh, hq⟩) | ⟨h, hh, hq⟩)
      · exact Or.inl z
      · exact Or.inr ⟨h, List.mem_append_left _ hh, hq⟩
      · exact Or.inr ⟨a.length + h, List.mem_append_right _ ((mm _).2 ⟨h, hh, rfl⟩), by omega⟩
  · rw [e2 q (by omega), ← e1 q hq]
  · rw [← Nat.add_assoc]; exact f2
  · rcases List.mem_append.1 hh with y | y
    · obtain ⟨rk, z1, z2, z3⟩ := g1 h y
      have := p1 h y
      exact ⟨rk, z1, z2, by rw [e2 _ (by omega)]; exact z3⟩
    · obtain ⟨k, y1, y2⟩ := (mm h).1 y
      obtain ⟨rk, z1, z2, z3⟩ := g2 k y1
      exact ⟨rk, z1, z2, by rw [y2, ← Nat.add_assoc]; exact z3⟩
/-- more room for ranks, more statements told -/
theorem Stm_w (h : Stm u gl Pc Vm w N lo Bd ns qs cs) (hB : Bd ≤ Bd') (hn : ns ≤ n) : Stm u gl Pc Vm w N lo Bd' n qs cs := by
  refine ⟨h.1, fun O H nu R ρ c ms C ti eN no hD cn lp hR1 hR2 h2 hB' hN hC1 hC2 => ?_⟩
  obtain ⟨D, z1, z2⟩ := h.2 O H nu R ρ c ms C ti eN no hD cn lp (by omega) hR2 h2 (by omega) hN hC1 hC2
  exact ⟨D, TI_R z1 (by omega), z2⟩
/-- BEGIN -/
theorem TI_bg (ti : TI O H nu R c) (no : ∀ q, tcN c ≤ q → ¬ O q) (hD : tcD c (tcN c) = some (u, 0, (bsl + w) :: ms, ρ)) (cn : StC O u gl Pc Vm nu c w ms) (hR : R ≤ RK) (h1 : k ≤ 72 * (RK + 1)) (hρ : ρ ≤ RK) (hN : tcN c + 1 ≤ 36864) (hC1 : ∀ i, i < tcN c → C i = tcC c i) (hC0 : ∃ y, Sm3 y ∧ C (tcN c) = em 0 y) : TI O H nu R (mkc c C (tcN c + 1) (up1 c 1 (u, 0, (bsl + w) :: ms, k))) := by
  obtain ⟨y0, hy, hC0⟩ := hC0
  have dU1 : ∀ q y', tcD c q = some y' → up1 c 1 (u, 0, (bsl + w) :: ms, k) q = some y' := fun q y' e => up1_d ti (Nat.le_refl _) e
  have rk40 : RK = 40000 := rfl
  refine TI_s1 ti (no _ (Nat.le_refl _)) (Nat.le_refl _) hN hC1 (fun y ey => ?_) (Nat.le_refl _)
  rw [hD] at ey
  cases ey
  have cn1 : StC O u gl Pc Vm nu (mkc c C (tcN c + 1) (up1 c 1 (u, 0, (bsl + w) :: ms, k))) w ms := StC_k cn dU1
  exact OKq_of (op := 0) (x := y0) (dU1 _ _ hD) (no _ (Nat.le_refl _)) cn.1.2.1 (Nat.le_refl _) (by omega) (by decide) (Nat.le_refl _) (by show C (tcN c) &&& 255 = _; rw [hC0]; exact em_lo (by decide)) (by show C (tcN c) >>> ((8 : Int32) &&& 31) = _; rw [hC0]; exact em_hi (by decide) hy) (fun c' a hc ro => OKI_0 rfl ⟨rfl, w, ms, rfl, st_bs cn, cn.2.1.2.2, cn.2.1.2.1, tS_of a cn.1.1 cn.2.1.1, hρ, nxS_of a cn.1.1 up1_e (no _ (by omega)) (Rsh_r _ _) (by rw [show bt 0 ((bsl + w) :: ms) = w from sh_bt (w := w) (ms := ms) [] 0 nilp]; exact cn.1.2.2.1) (by rw [show bt 0 ((bsl + w) :: ms) = w from sh_bt (w := w) (ms := ms) [] 0 nilp]; exact cn.1.2.2.1) h1⟩)
/-- a simple statement -/
theorem Stm_s (h : Sse u gl Pc Vm [] x 0 0 cs) (hx : x ≤ 2) (hp : pl < 8388608) : Stm u gl Pc Vm w N lo Bd 1 [] (em 0 (nI pl) :: cs) := by
  have el : (em 0 (nI pl) :: cs).length = cs.length + 1 := rfl
  refine ⟨⟨fun h z => absurd z List.not_mem_nil, List.Pairwise.nil⟩, fun O H nu R ρ c ms C ti eN no hD cn lp hR1 hR2 h2 hB hN hC1 hC2 => ?_⟩
  subst eN
  rw [el] at hR1 hN hC2 ⊢
  have rk40 : RK = 40000 := rfl
  have c0 : C (tcN c) = em 0 (nI pl) := hC2 0 (by omega) List.not_mem_nil
  have t1 := TI_bg (k := R) ti no hD cn hR2 (by omega) (by omega) (by omega) hC1 ⟨nI pl, Sm3_n hp, c0⟩
  have dU1 : ∀ q y', tcD c q = some y' → up1 c 1 (u, 0, (bsl + w) :: ms, R) q = some y' := fun q y' e => up1_d ti (Nat.le_refl _) e
  obtain ⟨D2, t2, e2, f2⟩ := h O H nu R ρ (mkc c C (tcN c + 1) (up1 c 1 (u, 0, (bsl + w) :: ms, R))) w ms C t1 (fun q hq => no q (by have : tcN c + 1 ≤ q := hq; omega)) up1_e (StC_k cn dU1) nilp (by omega) hR2 (by omega) (by omega) (by show tcN c + 1 + cs.length ≤ _; omega) (fun _ _ => rfl) (fun i hi => by
    show C (tcN c + 1 + i) = _
    rw [show tcN c + 1 + i = tcN c + (i + 1) by omega]
    exact hC2 (i + 1) (by omega) List.not_mem_nil)
  refine ⟨D2, ?_, fun q hq => ?_, ?_, fun h z => absurd z List.not_mem_nil⟩
  · rw [show tcN c + (cs.length + 1) = tcN c + 1 + cs.length by omega]
    exact TI_h (TI_R t2 (by omega)) (fun q => ⟨fun z => z.elim id (fun ⟨h, y, _⟩ => absurd y List.not_mem_nil), Or.inl⟩)
  · rw [e2 q (by show q ≤ tcN c + 1; omega)]; exact up1_o (by omega)
  · rw [show tcN c + (cs.length + 1) = tcN c + 1 + cs.length by omega]; exact f2
theorem Is_st : Isc u gl Pc Vm [] 0 0 0 [em 2 0] := Is_1 (by decide) Sm3_0 (fun O nu R re c c' pc w ms hN no2 hD2 hr cn hp hR1 hR2 hd a => OKI_1 (by decide) ⟨fun _ => ⟨tS_of a cn.1.1 cn.2.1.1, w, ms, rfl, rfl, cn.2.1.2.2⟩, fun z => absurd z (by decide), fun z => absurd z (by omega), fun z => absurd z (by omega), fun z => absurd z (by omega)⟩)
theorem Is_ep (hm : 1 ≤ m) (hu : ¬ u = 0) : Isc u gl Pc Vm [] 0 m 0 [em 20 0] := Is_1 (by decide) Sm3_0 (fun O nu R re c c' pc w ms hN no2 hD2 hr cn hp hR1 hR2 hd a => OKI_7 (by decide) ⟨fun z => absurd z (by decide), fun z => absurd z (by decide), fun z => absurd z (by decide), fun z => absurd z (by decide), fun z => absurd z (by decide), fun _ => ⟨hm, tS_of a cn.1.1 cn.2.1.1, hu, by omega, fun i hi => by
  have u2 : tcP c' u = tcP c u := by
    rcases cn.1.1 with z | z
    · exact (a.2.1 u (Or.inl ⟨by omega, z⟩)).2.1
    · exact absurd z cn.2.1.1.2
  rw [u2] at hi
  have y := cn.2.2.2.1 hu i hi
  exact ⟨y.1, sh_has (w := w) (ms := ms) [] nilp (cn.1.2.2.2.2.2.2.1 _ y.2)⟩⟩, fun z => absurd z (by decide), fun z => absurd z (by decide), fun z => absurd z (by omega), fun z => absurd z (by decide)⟩)
end CWI
