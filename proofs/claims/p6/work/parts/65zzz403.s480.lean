/-! The class: else, and the end of an if, typed. -/
section CWN
variable {c c' c1 c2 : Ct} {O O' H H' : Nat → Prop} {u nu nu' pc ln R R' re p d d' rk k op w n m m' q t x y x1 x2 g s N N0 X h h0 Bd Bd' ns na nb pl ρ ρt : Nat} {r r' pre ms ms' mse : List Nat} {x0 v y0 y1 : Int32} {Vm : Nat → Prop} {Pc : Nat → Nat → Prop} {cs cs2 ins a b tl o co bo : List Int32} {gl : Nat × (Nat → Nat → Prop)} {C : Nat → Int32} {qs qa qb es : List Nat} {lo ow : Option Nat}
/-- else -/
theorem IfK_l (k : IfK u gl Pc Vm w N lo Bd ns qs es (some h) cs) (hb : Stm u gl Pc Vm w (N + (cs.length + 1)) lo Bd nb qb bo) : IfK u gl Pc Vm w N lo Bd (ns + nb) (qs ++ shQ (cs.length + 1) qb) (cs.length :: es) none (cs.set h (em 4 (nI (cs.length + 1 - h))) ++ (y1 :: bo)) := by
  have k' := k
  obtain ⟨⟨a1, ⟨a2, a3⟩, a4, a5⟩, kk⟩ := k'
  have h1 := a1 h (Or.inr rfl)
  obtain ⟨h5, h6⟩ := a5 h rfl
  obtain ⟨⟨p1, p2⟩, hb2⟩ := hb
  have el : (cs.set h (em 4 (nI (cs.length + 1 - h))) ++ (y1 :: bo)).length = cs.length + 1 + bo.length := by
    rw [List.length_append, List.length_set, List.length_cons]; omega
  have nq : ∀ i, i ∈ qs ++ shQ (cs.length + 1) qb → (i ∈ qs ∧ i < cs.length) ∨ ∃ j, j ∈ qb ∧ i = cs.length + 1 + j := fun i hi => by
    rcases List.mem_append.1 hi with z | z
    · exact Or.inl ⟨z, a1 i (Or.inl (Or.inl z))⟩
    · exact Or.inr (shQ_m.1 z)
  have ne : ∀ i, i ∈ cs.length :: es → i = cs.length ∨ (i ∈ es ∧ i < cs.length) := fun i hi => by
    rcases List.mem_cons.1 hi with z | z
    · exact Or.inl z
    · exact Or.inr ⟨z, a1 i (Or.inl (Or.inr z))⟩
  refine ⟨⟨fun i z => ?_, ⟨pw_ap a2 (fun i hi => by have := a1 i (Or.inl (Or.inl hi)); omega) p2, List.pairwise_cons.2 ⟨fun i hi e => by have := a1 i (Or.inl (Or.inr hi)); omega, a3⟩⟩, fun i hi hj => ?_, fun i e => by cases e⟩, fun O H nu R ρ ρb c ms C ti eN no hD cn lp hR1 hR2 h2 hρ hB hN hC1 hC2 => ?_⟩
  · rw [el]
    rcases z with (z | z) | z
    · rcases nq i z with y | ⟨j, y1, y2⟩
      · omega
      · have := p1 j y1; omega
    · rcases ne i z with y | y <;> omega
    · cases z
  · rcases nq i hi with y | ⟨j, y1, y2⟩
    · rcases ne i hj with z | z
      · omega
      · exact a4 i y.1 z.1
    · rcases ne i hj with z | z <;> omega
  rw [el] at hR1 hN hC2 ⊢
  have nh : ∀ i, i < cs.length → ¬ (i ∈ qs ∨ i ∈ es) → ¬ hlI (qs ++ shQ (cs.length + 1) qb) (cs.length :: es) none i := fun i hi hn z => by
    rcases z with (z | z) | z
    · rcases nq i z with y | ⟨j, y1, y2⟩
      · exact hn (Or.inl y.1)
      · omega
    · rcases ne i z with y | y
      · omega
      · exact hn (Or.inr y.1)
    · cases z
  obtain ⟨D1, t1, e1, f1, q1, s1⟩ := IfJ (C := C) (rs := ρb) k ti eN no hD cn lp (by omega) hR2 h2 hB (by omega) hC1 (fun i hi hn => by
    rw [hC2 i (by omega) (nh i hi (fun z => hn (Or.inl z)))]
    exact gd_o _ hi (fun e => hn (Or.inr (congrArg some e.symm)))) (by
    rw [hC2 h (by omega) (nh h h1 (fun z => z.elim h5 h6))]
    exact gd_h _ h1) (by omega)
  have dU1 : ∀ q y', tcD c q = some y' → D1 q = some y' := fun q y' e => by
    have := dd_of ti (fun q hq => e1 q (by omega)) q y' e
    exact this
  obtain ⟨D, z1, z2, z3, z4⟩ := hb2 O (fun q => H q ∨ ∃ h, hlI qs (cs.length :: es) none h ∧ q = N + h) nu (R - cs.length - ns - 1) ρb (mkc c C (N + (cs.length + 1)) D1) ms C t1 rfl (fun q hq => no q (by omega)) f1 (StC_k cn dU1) (LpC_k lp (by omega) dU1) (by omega) (by omega) (by omega) (by omega) (by omega) (fun _ _ => rfl) (fun i hi hn => by
    rw [Nat.add_assoc, hC2 (cs.length + 1 + i) (by omega) (fun z => ?_), show cs.length + 1 + i = cs.length + (i + 1) by omega, gd_b]
    · rfl
    · rcases z with (z | z) | z
      · rcases nq _ z with y | ⟨j, y1, y2⟩
        · omega
        · exact hn (by rw [show i = j by omega]; exact y1)
      · rcases ne _ z with y | y <;> omega
      · cases z)
  have eT : N + (cs.length + 1) + bo.length = N + (cs.length + 1 + bo.length) := by omega
  rw [eT] at z1 z3
  have o4 : ∀ q, q ≤ N + (cs.length + 1) → D q = D1 q := fun q hq => z2 q hq
  refine ⟨D, TI_h (TI_R z1 (by omega)) (fun q => ?_), fun q hq => (o4 q (by omega)).trans (e1 q hq), z3, fun i hi => ?_, fun i hi => ?_, fun i e => by cases e⟩
  · constructor
    · rintro (z | ⟨i, (z | z) | z, e⟩)
      · exact Or.inl (Or.inl z)
      · rcases nq i z with y | ⟨j, y1, y2⟩
        · exact Or.inl (Or.inr ⟨i, Or.inl (Or.inl y.1), e⟩)
        · exact Or.inr ⟨j, y1, by omega⟩
      · exact Or.inl (Or.inr ⟨i, Or.inl (Or.inr z), e⟩)
      · cases z
    · rintro ((z | ⟨i, (z | z) | z, e⟩) | ⟨i, z, e⟩)
      · exact Or.inl z
      · exact Or.inr ⟨i, Or.inl (Or.inl (List.mem_append_left _ z)), e⟩
      · exact Or.inr ⟨i, Or.inl (Or.inr z), e⟩
      · cases z
      · exact Or.inr ⟨cs.length + 1 + i, Or.inl (Or.inl (List.mem_append_right _ (shQ_m.2 ⟨i, z, rfl⟩))), by omega⟩
  · rcases nq i hi with y | ⟨j, y1, y2⟩
    · obtain ⟨r1, v1, v2, v3⟩ := q1 i y.1
      exact ⟨r1, v1, v2, (o4 _ (by omega)).trans v3⟩
    · obtain ⟨r1, v1, v2, v3⟩ := z4 j y1
      exact ⟨r1, v1, v2, by rw [y2, ← Nat.add_assoc]; exact v3⟩
  · have := ne i hi
    exact (o4 _ (by omega)).trans (s1 i hi)
/-- end -/
theorem IfK_end (k : IfK u gl Pc Vm w N lo Bd ns qs es ow cs) (l : cs2.length = cs.length) (c1 : ∀ i, i < cs.length → ¬ hlI [] es ow i → cs2.getD i 0 = cs.getD i 0) (c2 : ∀ i, i ∈ es → cs2.getD i 0 = em 3 (nI (cs.length - i))) (c3 : ∀ i, ow = some i → cs2.getD i 0 = em 4 (nI (cs.length - i))) : Stm u gl Pc Vm w N lo (Bd + 1) ns qs cs2 := by
  obtain ⟨⟨a1, ⟨a2, a3⟩, a4, a5⟩, kk⟩ := k
  refine ⟨⟨fun i hi => by rw [l]; exact a1 i (Or.inl (Or.inl hi)), a2⟩, fun O H nu R ρ c ms C ti eN no hD cn lp hR1 hR2 h2 hB hN hC1 hC2 => ?_⟩
  rw [l] at hR1 hN hC2 ⊢
  have hu : (u ≤ nu ∨ u = 41) ∧ u < 42 := ⟨cn.1.1, cn.1.2.1⟩
  have hz : ∀ q, H q → q < N := fun q z => by have := ti.2.2.1 q z; omega
  obtain ⟨D, t1, e1, f1, q1, s1, w1⟩ := kk O H nu R ρ ρ c ms C ti eN no hD cn lp (by omega) hR2 h2 ⟨Nat.le_refl _, by omega⟩ (by omega) hN hC1 (fun i hi hn => by
    rw [hC2 i hi (fun z => hn (Or.inl (Or.inl z)))]
    exact c1 i hi (fun z => hn (by
      rcases z with (z | z) | z
      · exact absurd z List.not_mem_nil
      · exact Or.inl (Or.inr z)
      · exact Or.inr z)))
  have rk40 : RK = 40000 := rfl
  -- those to the end
  have t2 := TI_qs (c := mkc c C (N + cs.length) D) (N0 := N) (X := N + cs.length) (mse := ms) (ms := ms) (w := w) (u := u) (ρt := ρ) hu cn.1.2.2.1 (no _ (by omega)) f1 (fun i hi => hi) (Nat.le_refl _) es (fun q => (H q ∨ ∃ h, h ∈ qs ∧ q = N + h) ∨ ∃ h, ow = some h ∧ q = N + h) (TI_h t1 (fun q => by
    constructor
    · rintro (((z | ⟨i, z, e⟩) | ⟨i, z, e⟩) | ⟨i, z, e⟩)
      · exact Or.inl z
      · exact Or.inr ⟨i, Or.inl (Or.inl z), e⟩
      · exact Or.inr ⟨i, Or.inr z, e⟩
      · exact Or.inr ⟨i, Or.inl (Or.inr z), e⟩
    · rintro (z | ⟨i, (z | z) | z, e⟩)
      · exact Or.inl (Or.inl (Or.inl z))
      · exact Or.inl (Or.inl (Or.inr ⟨i, z, e⟩))
      · exact Or.inr ⟨i, z, e⟩
      · exact Or.inl (Or.inr ⟨i, z, e⟩))) (fun i hi => by
    have hl := a1 i (Or.inl (Or.inr hi))
    refine ⟨fun y => ?_, no _ (by omega), by omega, ?_, ρ + 1, by omega, by omega, s1 i hi⟩
    · rcases y with (y | ⟨j, y, e⟩) | ⟨j, y, e⟩
      · have := hz _ y; omega
      · exact a4 j y (by rw [show j = i by omega]; exact hi)
      · exact (a5 j y).2 (by rw [show j = i by omega]; exact hi)
    · show C (N + i) = _
      rw [hC2 i hl (fun y => a4 i y hi), c2 i hi]
      exact congrArg (fun z => em 3 (nI z)) (by omega)) a3
  rcases ow with _ | h
  · refine ⟨D, TI_h t2 (fun q => ⟨fun z => Or.inl z, fun z => z.elim id (fun ⟨i, y, _⟩ => by cases y)⟩), e1, f1, q1⟩
  · obtain ⟨rk, k1, ⟨w2, w3, w4⟩, w5, w6⟩ := w1 h rfl
    obtain ⟨h5, h6⟩ := a5 h rfl
    have hl := a1 h (Or.inr rfl)
    have t3 := TI_f1 (c := mkc c C (N + cs.length) D) (H := fun q => H q ∨ ∃ h, h ∈ qs ∧ q = N + h) (h0 := N + h) (X := N + cs.length) (mse := ms) (ms := ms) (w := w) (u := u) (ρt := ρ) (k := k1) (rk := rk) (TI_h t2 (fun q => ⟨fun z => z.elim Or.inl (fun e => Or.inr ⟨h, rfl, e⟩), fun z => z.elim Or.inl (fun ⟨i, y, e⟩ => Or.inr (by cases y; exact e))⟩)) (fun y => by
      rcases y with y | ⟨j, y, e⟩
      · have := hz _ y; omega
      · exact h5 (by rw [show h = j by omega]; exact y)) hu cn.1.2.2.1 (no _ (by omega)) (no _ (by omega)) (no _ (by omega)) f1 w5 w6 (fun i hi => hi) (by
      show C (N + h) = _
      rw [hC2 h hl h5, c3 h rfl]
      exact congrArg (fun z => em 4 (nI z)) (by omega)) (by omega) (Nat.le_refl _) (by omega) w4 w3
    exact ⟨D, t3, e1, f1, q1⟩
end CWN
