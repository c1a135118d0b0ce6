/-! The class: ifs, typed. -/
section CWL
variable {c c' c1 c2 : Ct} {O O' H H' : Nat → Prop} {u nu nu' pc ln R R' re p d d' rk k op w n m m' q t x y x1 x2 g s N N0 X h0 Bd Bd' ns na nb pl ρ ρt : Nat} {r r' pre ms ms' mse : List Nat} {x0 v y0 y1 : Int32} {Vm : Nat → Prop} {Pc : Nat → Nat → Prop} {cs ins a b tl o co bo : List Int32} {gl : Nat × (Nat → Nat → Prop)} {C : Nat → Int32} {qs qa qb es : List Nat} {lo ow : Option Nat}
/-- places that wait -/
def hlI (qs es : List Nat) (ow : Option Nat) (h : Nat) : Prop := (h ∈ qs ∨ h ∈ es) ∨ ow = some h
/-- an if, so far: es go to its end, ow to the next branch; it stands behind a branch -/
def IfK (u : Nat) (gl : Nat × (Nat → Nat → Prop)) (Pc : Nat → Nat → Prop) (Vm : Nat → Prop) (w N : Nat) (lo : Option Nat) (Bd ns : Nat) (qs es : List Nat) (ow : Option Nat) (cs : List Int32) : Prop := ((∀ h, hlI qs es ow h → h < cs.length) ∧ (qs.Pairwise (fun a b => ¬ a = b) ∧ es.Pairwise (fun a b => ¬ a = b)) ∧ (∀ h, h ∈ qs → ¬ h ∈ es) ∧ ∀ h, ow = some h → ¬ h ∈ qs ∧ ¬ h ∈ es) ∧ ∀ (O H : Nat → Prop) (nu R ρ ρb : Nat) (c : Ct) (ms : List Nat) (C : Nat → Int32), TI O H nu R c → tcN c = N → (∀ q, N ≤ q → ¬ O q) → tcD c N = some (u, 0, (bsl + w) :: ms, ρ) → StC O u gl Pc Vm nu c w ms → LpC O c u w ms lo → 1000 + cs.length + ns ≤ R → R ≤ RK → 2 ≤ ρ → (ρ ≤ ρb ∧ ρb ≤ ρ + 1) → ρ + 1 + Bd ≤ 999 → N + cs.length ≤ 36864 → (∀ i, i < N → C i = tcC c i) → (∀ i, i < cs.length → ¬ hlI qs es ow i → C (N + i) = cs.getD i 0) → ∃ D, TI O (fun q => H q ∨ ∃ h, hlI qs es ow h ∧ q = N + h) nu (R - cs.length - ns) (mkc c C (N + cs.length) D) ∧ (∀ q, q ≤ N → D q = tcD c q) ∧ D (N + cs.length) = some (u, 0, (bsl + w) :: ms, ρb) ∧ (∀ h, h ∈ qs → ∃ rk, 1000 ≤ rk ∧ rk ≤ RK ∧ D (N + h) = some (u, 0, (bsl + w) :: ms, rk)) ∧ (∀ h, h ∈ es → D (N + h) = some (u, 0, (bsl + w) :: ms, ρ + 1)) ∧ ∀ h, ow = some h → ∃ rk k, (R - cs.length - ns < rk ∧ rk ≤ RK ∧ k < rk) ∧ D (N + h) = some (u, 1, (bsl + w) :: ms, rk) ∧ D (N + h + 1) = some (u, 0, (bsl + w) :: ms, k)
def shQ (k : Nat) (qs : List Nat) : List Nat := qs.map (fun i => k + i)
theorem shQ_m {k h : Nat} : h ∈ shQ k qs ↔ ∃ i, i ∈ qs ∧ h = k + i := by
  unfold shQ
  rw [List.mem_map]
  exact ⟨fun ⟨i, z1, z2⟩ => ⟨i, z1, z2.symm⟩, fun ⟨i, z1, z2⟩ => ⟨i, z1, z2.symm⟩⟩
theorem shQ_p {k : Nat} (h : qs.Pairwise (fun a b => ¬ a = b)) : (shQ k qs).Pairwise (fun a b => ¬ a = b) := by
  unfold shQ
  rw [List.pairwise_map]
  exact List.Pairwise.imp (fun z y => z (by omega)) h
/-- the condition, its jump, its branch: from any place on -/
theorem Ifb (hc : Sst u gl Pc Vm [] 0 0 1 co) (hb : Stm u gl Pc Vm w (N + (co.length + 1)) lo Bd nb qb bo) (ti : TI O H nu R c) (eN : tcN c = N) (no : ∀ q, N ≤ q → ¬ O q) (hD : tcD c N = some (u, 0, (bsl + w) :: ms, R)) (cn : StC O u gl Pc Vm nu c w ms) (lp : LpC O c u w ms lo) (hR1 : 1000 + (co.length + 1 + bo.length) + nb ≤ R) (hR2 : R ≤ RK) (h2 : 2 ≤ ρ) (hB : ρ + Bd ≤ 999) (hN : N + (co.length + 1 + bo.length) ≤ 36864) (hC1 : ∀ i, i < N → C i = tcC c i) (k1 : ∀ i, i < co.length → C (N + i) = co.getD i 0) (k3 : ∀ i, i < bo.length → ¬ i ∈ qb → C (N + (co.length + 1) + i) = bo.getD i 0) : ∃ D, TI O (fun q => H q ∨ ∃ h, hlI (shQ (co.length + 1) qb) [] (some co.length) h ∧ q = N + h) nu (R - (co.length + 1 + bo.length) - nb) (mkc c C (N + (co.length + 1 + bo.length)) D) ∧ (∀ q, q ≤ N → D q = tcD c q) ∧ D (N + (co.length + 1 + bo.length)) = some (u, 0, (bsl + w) :: ms, ρ) ∧ (∀ h, h ∈ qb → ∃ rk, 1000 ≤ rk ∧ rk ≤ RK ∧ D (N + (co.length + 1) + h) = some (u, 0, (bsl + w) :: ms, rk)) ∧ D (N + co.length) = some (u, 1, (bsl + w) :: ms, R - co.length) ∧ D (N + co.length + 1) = some (u, 0, (bsl + w) :: ms, ρ) := by
  obtain ⟨⟨p1, p2⟩, hb⟩ := hb
  subst eN
  obtain ⟨D2, t2, e2, f2⟩ := hc O H nu R c w ms C ti no hD cn nilp (by omega) hR2 (by omega) (by omega) hC1 k1
  have f2' : D2 (tcN c + co.length) = some (u, 1, (bsl + w) :: ms, R - co.length) := f2
  have t2' : TI O H nu (R - co.length) (mkc c C (tcN c + co.length) D2) := t2
  have dU2 : ∀ q y', tcD c q = some y' → D2 q = some y' := fun q y' e => dd_of ti e2 q y' e
  have t3 := TI_ho (C := C) (y0 := (u, 0, (bsl + w) :: ms, ρ)) (R' := R - co.length - 1) t2' (by show tcN c + co.length + 1 ≤ _; omega) (fun _ _ => rfl) (by omega)
  generalize hD3 : up1 (mkc c C (tcN c + co.length) D2) 1 (u, 0, (bsl + w) :: ms, ρ) = D3 at t3
  have dU3 : ∀ q y', D2 q = some y' → D3 q = some y' := fun q y' e => by rw [← hD3]; exact up1_d t2' (Nat.le_refl _) e
  have m3 : D3 (tcN c + co.length + 1) = some (u, 0, (bsl + w) :: ms, ρ) := by rw [← hD3]; exact up1_e (c := mkc c C (tcN c + co.length) D2)
  have o3 : ∀ q, q ≤ tcN c + co.length → D3 q = D2 q := fun q hq => by rw [← hD3]; exact up1_o (by show ¬ q = tcN c + co.length + 1; omega)
  have dU13 : ∀ q y', tcD c q = some y' → D3 q = some y' := fun q y' e => dU3 q y' (dU2 q y' e)
  obtain ⟨D4, t4, e4, f4, g4⟩ := hb O (fun q => H q ∨ q = tcN c + co.length) nu (R - co.length - 1) ρ (mkc c C (tcN c + (co.length + 1)) D3) ms C t3 rfl (fun q hq => no q (by omega)) m3 (StC_k cn dU13) (LpC_k lp (by omega) dU13) (by omega) (by omega) h2 hB (by omega) (fun _ _ => rfl) k3
  refine ⟨D4, ?_, fun q hq => ?_, ?_, g4, ?_, ?_⟩
  · rw [show R - (co.length + 1 + bo.length) - nb = R - co.length - 1 - bo.length - nb by omega, show tcN c + (co.length + 1 + bo.length) = tcN c + (co.length + 1) + bo.length by omega]
    refine TI_h t4 (fun q => ?_)
    constructor
    · rintro (z | ⟨h, (z | z) | z, e⟩)
      · exact Or.inl (Or.inl z)
      · obtain ⟨i, y1, y2⟩ := shQ_m.1 z
        exact Or.inr ⟨i, y1, by omega⟩
      · exact absurd z List.not_mem_nil
      · cases z; exact Or.inl (Or.inr e)
    · rintro ((z | z) | ⟨h, hh, e⟩)
      · exact Or.inl z
      · exact Or.inr ⟨co.length, Or.inr rfl, z⟩
      · exact Or.inr ⟨co.length + 1 + h, Or.inl (Or.inl (shQ_m.2 ⟨h, hh, rfl⟩)), by omega⟩
  · exact (e4 q (by omega)).trans ((o3 q (by omega)).trans (e2 q hq))
  · rw [show tcN c + (co.length + 1 + bo.length) = tcN c + (co.length + 1) + bo.length by omega]; exact f4
  · exact (e4 _ (by omega)).trans ((o3 _ (Nat.le_refl _)).trans f2')
  · exact (e4 _ (by omega)).trans m3
/-- if .. then .. -/
theorem IfK_0 (hc : Sst u gl Pc Vm [] 0 0 1 co) (hb : Stm u gl Pc Vm w (N + (co.length + 2)) lo Bd nb qb bo) (hp : pl < 8388608) : IfK u gl Pc Vm w N lo Bd (nb + 1) (shQ (co.length + 2) qb) [] (some (co.length + 1)) (em 0 (nI pl) :: (co ++ (y0 :: bo))) := by
  have el : (em 0 (nI pl) :: (co ++ (y0 :: bo))).length = co.length + 2 + bo.length := by
    rw [List.length_cons, List.length_append, List.length_cons]; omega
  have hb' := hb
  obtain ⟨⟨p1, p2⟩, _⟩ := hb
  refine ⟨⟨fun h z => ?_, ⟨shQ_p p2, List.Pairwise.nil⟩, fun h _ => List.not_mem_nil, fun h e => ⟨fun z => ?_, List.not_mem_nil⟩⟩, fun O H nu R ρ ρb c ms C ti eN no hD cn lp hR1 hR2 h2 hρ hB hN hC1 hC2 => ?_⟩
  · rw [el]
    rcases z with (z | z) | z
    · obtain ⟨i, y1, y2⟩ := shQ_m.1 z
      have := p1 i y1; omega
    · exact absurd z List.not_mem_nil
    · cases z; omega
  · cases e
    obtain ⟨i, y1, y2⟩ := shQ_m.1 z
    omega
  subst eN
  rw [el] at hR1 hN hC2 ⊢
  have rk40 : RK = 40000 := rfl
  have nh : ∀ i, i ≤ co.length → ¬ hlI (shQ (co.length + 2) qb) [] (some (co.length + 1)) i := fun i hi z => by
    rcases z with (z | z) | z
    · obtain ⟨i', y1, y2⟩ := shQ_m.1 z; omega
    · exact absurd z List.not_mem_nil
    · cases z; omega
  have c0 : C (tcN c) = em 0 (nI pl) := hC2 0 (by omega) (nh 0 (by omega))
  have t1 := TI_bg (k := R) ti no hD cn hR2 (by omega) (by omega) (by omega) hC1 ⟨nI pl, Sm3_n hp, c0⟩
  have dU1 : ∀ q y', tcD c q = some y' → up1 c 1 (u, 0, (bsl + w) :: ms, R) q = some y' := fun q y' e => up1_d ti (Nat.le_refl _) e
  have gl1 : ∀ i, i < co.length → (em 0 (nI pl) :: (co ++ (y0 :: bo))).getD (1 + i) 0 = co.getD i 0 := fun i hi => by
    rw [Nat.add_comm]; exact gd_l hi
  have gl2 : ∀ i, (em 0 (nI pl) :: (co ++ (y0 :: bo))).getD (co.length + 2 + i) 0 = bo.getD i 0 := fun i => by
    rw [show co.length + 2 + i = co.length + (1 + i) + 1 by omega]
    show (co ++ (y0 :: bo)).getD (co.length + (1 + i)) 0 = _
    rw [gd_r, Nat.add_comm]; rfl
  obtain ⟨D, z1, z2, z3, z4, z5, z6⟩ := Ifb (N := tcN c + 1) (ρ := ρb) (Bd := Bd) (C := C) hc (by rw [show tcN c + 1 + (co.length + 1) = tcN c + (co.length + 2) by omega]; exact hb') t1 rfl (fun q hq => no q (by omega)) up1_e (StC_k cn dU1) (LpC_k lp (by omega) dU1) (by omega) hR2 (by omega) (by omega) (by omega) (fun _ _ => rfl) (fun i hi => by
    rw [Nat.add_assoc, hC2 (1 + i) (by omega) (nh _ (by omega))]; exact gl1 i hi) (fun i hi hn => by
    rw [show tcN c + 1 + (co.length + 1) + i = tcN c + (co.length + 2 + i) by omega, hC2 _ (by omega) (fun z => ?_)]
    · exact gl2 i
    · rcases z with (z | z) | z
      · obtain ⟨i', y1, y2⟩ := shQ_m.1 z
        exact hn (by rw [show i = i' by omega]; exact y1)
      · exact absurd z List.not_mem_nil
      · have := Option.some.inj z; omega)
  have eN1 : tcN c + 1 + (co.length + 1 + bo.length) = tcN c + (co.length + 2 + bo.length) := by omega
  rw [eN1] at z1 z3
  refine ⟨D, TI_h (TI_R z1 (by omega)) (fun q => ?_), fun q hq => ?_, z3, fun h hh => ?_, fun h z => absurd z List.not_mem_nil, fun h e => ?_⟩
  · constructor
    · rintro (z | ⟨h, (z | z) | z, e⟩)
      · exact Or.inl z
      · obtain ⟨i, y1, y2⟩ := shQ_m.1 z
        exact Or.inr ⟨co.length + 1 + i, Or.inl (Or.inl (shQ_m.2 ⟨i, y1, rfl⟩)), by omega⟩
      · exact absurd z List.not_mem_nil
      · cases z; exact Or.inr ⟨co.length, Or.inr rfl, by omega⟩
    · rintro (z | ⟨h, (z | z) | z, e⟩)
      · exact Or.inl z
      · obtain ⟨i, y1, y2⟩ := shQ_m.1 z
        exact Or.inr ⟨co.length + 2 + i, Or.inl (Or.inl (shQ_m.2 ⟨i, y1, rfl⟩)), by omega⟩
      · exact absurd z List.not_mem_nil
      · cases z; exact Or.inr ⟨co.length + 1, Or.inr rfl, by omega⟩
  · exact (z2 q (by omega)).trans (up1_o (by omega))
  · obtain ⟨i, y1, y2⟩ := shQ_m.1 hh
    obtain ⟨rk, w1, w2, w3⟩ := z4 i y1
    exact ⟨rk, w1, w2, by rw [y2, show tcN c + (co.length + 2 + i) = tcN c + 1 + (co.length + 1) + i by omega]; exact w3⟩
  · cases e
    refine ⟨R - co.length, ρb, ⟨by omega, by omega, by omega⟩, ?_, ?_⟩
    · rw [show tcN c + (co.length + 1) = tcN c + 1 + co.length by omega]; exact z5
    · rw [show tcN c + (co.length + 1) + 1 = tcN c + 1 + co.length + 1 by omega]; exact z6
end CWL
