/-! The class: ifs go on and end, typed. -/
section CWM
variable {c c' c1 c2 : Ct} {O O' H H' : Nat → Prop} {u nu nu' pc ln R R' re p d d' rk k op w n m m' q t x y x1 x2 g s N N0 X h h0 Bd Bd' ns na nb pl ρ ρt : Nat} {r r' pre ms ms' mse : List Nat} {x0 v y0 y1 : Int32} {Vm : Nat → Prop} {Pc : Nat → Nat → Prop} {cs cs2 ins a b tl o co bo : List Int32} {gl : Nat × (Nat → Nat → Prop)} {C : Nat → Int32} {qs qa qb es : List Nat} {lo ow : Option Nat}
theorem gd_o {l : List Int32} {h i : Nat} (y : Int32) (hi : i < l.length) (n : ¬ i = h) : (l.set h y ++ o).getD i 0 = l.getD i 0 := by
  rw [gd_l (by rw [List.length_set]; exact hi), gd_set, if_neg (fun z => n z.1)]
theorem gd_h {l : List Int32} {h : Nat} (y : Int32) (hi : h < l.length) : (l.set h y ++ o).getD h 0 = y := by
  rw [gd_l (by rw [List.length_set]; exact hi), gd_set, if_pos ⟨rfl, hi⟩]
theorem gd_b {l : List Int32} {h i : Nat} (y : Int32) : (l.set h y ++ o).getD (l.length + i) 0 = o.getD i 0 := by
  have e : (l.set h y).length = l.length := List.length_set
  rw [← e, gd_r]
/-- the jump to the end; what waited for the next branch comes behind it -/
theorem IfJ (k : IfK u gl Pc Vm w N lo Bd ns qs es (some h) cs) (ti : TI O H nu R c) (eN : tcN c = N) (no : ∀ q, N ≤ q → ¬ O q) (hD : tcD c N = some (u, 0, (bsl + w) :: ms, ρ)) (cn : StC O u gl Pc Vm nu c w ms) (lp : LpC O c u w ms lo) (hR1 : 1000 + (cs.length + 1) + ns ≤ R) (hR2 : R ≤ RK) (h2 : 2 ≤ ρ) (hB : ρ + 1 + Bd ≤ 999) (hN : N + (cs.length + 1) ≤ 36864) (hC1 : ∀ i, i < N → C i = tcC c i) (hC2 : ∀ i, i < cs.length → ¬ hlI qs es (some h) i → C (N + i) = cs.getD i 0) (hC3 : C (N + h) = em 4 (nI (cs.length + 1 - h))) {rs : Nat} (hrs : rs ≤ R - cs.length - ns - 1) : ∃ D, TI O (fun q => H q ∨ ∃ h, hlI qs (cs.length :: es) none h ∧ q = N + h) nu (R - cs.length - ns - 1) (mkc c C (N + (cs.length + 1)) D) ∧ (∀ q, q ≤ N → D q = tcD c q) ∧ D (N + (cs.length + 1)) = some (u, 0, (bsl + w) :: ms, rs) ∧ (∀ h, h ∈ qs → ∃ rk, 1000 ≤ rk ∧ rk ≤ RK ∧ D (N + h) = some (u, 0, (bsl + w) :: ms, rk)) ∧ (∀ h, h ∈ cs.length :: es → D (N + h) = some (u, 0, (bsl + w) :: ms, ρ + 1)) := by
  obtain ⟨⟨a1, ⟨a2, a3⟩, a4, a5⟩, kk⟩ := k
  have h1 := a1 h (Or.inr rfl)
  obtain ⟨h5, h6⟩ := a5 h rfl
  have hu : (u ≤ nu ∨ u = 41) ∧ u < 42 := ⟨cn.1.1, cn.1.2.1⟩
  have hz : ∀ q, H q → q < N := fun q z => by have := ti.2.2.1 q z; omega
  obtain ⟨D1, t1, e1, f1, q1, s1, w1⟩ := kk O H nu R ρ (ρ + 1) c ms C ti eN no hD cn lp (by omega) hR2 h2 ⟨by omega, Nat.le_refl _⟩ hB (by omega) hC1 hC2
  obtain ⟨rk, k1, ⟨w2, w3, w4⟩, w5, w6⟩ := w1 h rfl
  have e1' : ∀ q, q ≤ tcN c → D1 q = tcD c q := fun q hq => e1 q (by omega)
  have t2 := TI_ho (C := C) (y0 := (u, 0, (bsl + w) :: ms, rs)) (R' := R - cs.length - ns - 1) t1 (by show N + cs.length + 1 ≤ _; omega) (fun _ _ => rfl) (by omega)
  generalize hD2 : up1 (mkc c C (N + cs.length) D1) 1 (u, 0, (bsl + w) :: ms, rs) = D2 at t2
  have dU2 : ∀ q y', D1 q = some y' → D2 q = some y' := fun q y' e => by rw [← hD2]; exact up1_d t1 (Nat.le_refl _) e
  have o2 : ∀ q, q ≤ N + cs.length → D2 q = D1 q := fun q hq => by rw [← hD2]; exact up1_o (by show ¬ q = N + cs.length + 1; omega)
  have m2 : D2 (N + (cs.length + 1)) = some (u, 0, (bsl + w) :: ms, rs) := by rw [← hD2]; exact up1_e (c := mkc c C (N + cs.length) D1)
  have t3 : TI O (fun q => (H q ∨ ∃ h, hlI qs (cs.length :: es) none h ∧ q = N + h) ∨ q = N + h) nu (R - cs.length - ns - 1) (mkc c C (N + (cs.length + 1)) D2) := by
    refine TI_h t2 (fun q => ?_)
    constructor
    · rintro ((z | ⟨i, (z | z) | z, e⟩) | z)
      · exact Or.inl (Or.inl z)
      · exact Or.inl (Or.inr ⟨i, Or.inl (Or.inl z), e⟩)
      · rcases List.mem_cons.1 z with y | y
        · rw [y] at e; exact Or.inr e
        · exact Or.inl (Or.inr ⟨i, Or.inl (Or.inr y), e⟩)
      · cases z
      · exact Or.inl (Or.inr ⟨h, Or.inr rfl, z⟩)
    · rintro ((z | ⟨i, (z | z) | z, e⟩) | z)
      · exact Or.inl (Or.inl z)
      · exact Or.inl (Or.inr ⟨i, Or.inl (Or.inl z), e⟩)
      · exact Or.inl (Or.inr ⟨i, Or.inl (Or.inr (List.mem_cons_of_mem _ z)), e⟩)
      · cases z; exact Or.inr e
      · exact Or.inl (Or.inr ⟨cs.length, Or.inl (Or.inr List.mem_cons_self), z⟩)
  have t4 := TI_f1 (c := mkc c C (N + (cs.length + 1)) D2) (h0 := N + h) (X := N + (cs.length + 1)) (mse := ms) (ms := ms) (w := w) (u := u) (ρt := rs) (k := k1) (rk := rk) t3 (fun y => by
    rcases y with y | ⟨i, (z | z) | z, e⟩
    · have := hz _ y; omega
    · exact h5 (by rw [show h = i by omega]; exact z)
    · rcases List.mem_cons.1 z with y | y
      · omega
      · exact h6 (by rw [show h = i by omega]; exact y)
    · cases z) hu cn.1.2.2.1 (no _ (by omega)) (no _ (by omega)) (no _ (by omega)) m2 (dU2 _ _ w5) (dU2 _ _ w6) (fun i hi => hi) (by
    show C (N + h) = _
    rw [hC3]; exact congrArg (fun z => em 4 (nI z)) (by omega)) (by omega) (Nat.le_refl _) (by omega) w4 w3
  refine ⟨D2, t4, fun q hq => (o2 q (by omega)).trans (e1 q hq), m2, fun i hi => ?_, fun i hi => ?_⟩
  · obtain ⟨r1, z1, z2, z3⟩ := q1 i hi
    exact ⟨r1, z1, z2, dU2 _ _ z3⟩
  · rcases List.mem_cons.1 hi with y | y
    · rw [y]; exact dU2 _ _ f1
    · exact dU2 _ _ (s1 i y)
theorem pw_ap {k : Nat} (h1 : qs.Pairwise (fun a b => ¬ a = b)) (h2 : ∀ i, i ∈ qs → i < k) (h3 : qb.Pairwise (fun a b => ¬ a = b)) : (qs ++ shQ k qb).Pairwise (fun a b => ¬ a = b) := by
  rw [List.pairwise_append]
  refine ⟨h1, shQ_p h3, fun i hi j hj e => ?_⟩
  obtain ⟨j', y1, y2⟩ := shQ_m.1 hj
  have := h2 i hi
  omega
/-- elseif .. then .. -/
theorem IfK_e (k : IfK u gl Pc Vm w N lo Bd ns qs es (some h) cs) (hc : Sst u gl Pc Vm [] 0 0 1 co) (hb : Stm u gl Pc Vm w (N + (cs.length + 1 + (co.length + 1))) lo Bd nb qb bo) : IfK u gl Pc Vm w N lo Bd (ns + nb) (qs ++ shQ (cs.length + 1 + (co.length + 1)) qb) (cs.length :: es) (some (cs.length + 1 + co.length)) (cs.set h (em 4 (nI (cs.length + 1 - h))) ++ (y1 :: (co ++ (y0 :: bo)))) := by
  have k' := k
  obtain ⟨⟨a1, ⟨a2, a3⟩, a4, a5⟩, kk⟩ := k'
  have h1 := a1 h (Or.inr rfl)
  obtain ⟨h5, h6⟩ := a5 h rfl
  obtain ⟨⟨p1, p2⟩, _⟩ := id hb
  have el : (cs.set h (em 4 (nI (cs.length + 1 - h))) ++ (y1 :: (co ++ (y0 :: bo)))).length = cs.length + 1 + (co.length + 1) + bo.length := by
    rw [List.length_append, List.length_set, List.length_cons, List.length_append, List.length_cons]; omega
  have nq : ∀ i, i ∈ qs ++ shQ (cs.length + 1 + (co.length + 1)) qb → (i ∈ qs ∧ i < cs.length) ∨ ∃ j, j ∈ qb ∧ i = cs.length + 1 + (co.length + 1) + j := fun i hi => by
    rcases List.mem_append.1 hi with z | z
    · exact Or.inl ⟨z, a1 i (Or.inl (Or.inl z))⟩
    · exact Or.inr (shQ_m.1 z)
  have ne : ∀ i, i ∈ cs.length :: es → i = cs.length ∨ (i ∈ es ∧ i < cs.length) := fun i hi => by
    rcases List.mem_cons.1 hi with z | z
    · exact Or.inl z
    · exact Or.inr ⟨z, a1 i (Or.inl (Or.inr z))⟩
  refine ⟨⟨fun i z => ?_, ⟨pw_ap a2 (fun i hi => by have := a1 i (Or.inl (Or.inl hi)); omega) p2, List.pairwise_cons.2 ⟨fun i hi e => by have := a1 i (Or.inl (Or.inr hi)); omega, a3⟩⟩, fun i hi hj => ?_, fun i e => ?_⟩, fun O H nu R ρ ρb c ms C ti eN no hD cn lp hR1 hR2 h2 hρ hB hN hC1 hC2 => ?_⟩
  · rw [el]
    rcases z with (z | z) | z
    · rcases nq i z with y | ⟨j, y1, y2⟩
      · omega
      · have := p1 j y1; omega
    · rcases ne i z with y | y <;> omega
    · have := Option.some.inj z; omega
  · rcases nq i hi with y | ⟨j, y1, y2⟩
    · rcases ne i hj with z | z
      · omega
      · exact a4 i y.1 z.1
    · rcases ne i hj with z | z <;> omega
  · have e' := Option.some.inj e
    refine ⟨fun z => ?_, fun z => ?_⟩
    · rcases nq i z with y | ⟨j, y1, y2⟩ <;> omega
    · rcases ne i z with y | y <;> omega
  rw [el] at hR1 hN hC2 ⊢
  have nh : ∀ i, i < cs.length → ¬ (i ∈ qs ∨ i ∈ es) → ¬ hlI (qs ++ shQ (cs.length + 1 + (co.length + 1)) qb) (cs.length :: es) (some (cs.length + 1 + co.length)) i := fun i hi hn z => by
    rcases z with (z | z) | z
    · rcases nq i z with y | ⟨j, y1, y2⟩
      · exact hn (Or.inl y.1)
      · omega
    · rcases ne i z with y | y
      · omega
      · exact hn (Or.inr y.1)
    · have := Option.some.inj z; omega
  obtain ⟨D1, t1, e1, f1, q1, s1⟩ := IfJ (C := C) (rs := R - cs.length - ns - 1) k ti eN no hD cn lp (by omega) hR2 h2 hB (by omega) hC1 (fun i hi hn => by
    rw [hC2 i (by omega) (nh i hi (fun z => hn (Or.inl z)))]
    exact gd_o _ hi (fun e => hn (Or.inr (congrArg some e.symm)))) (by
    rw [hC2 h (by omega) (nh h h1 (fun z => z.elim h5 h6))]
    exact gd_h _ h1) (Nat.le_refl _)
  have dU1 : ∀ q y', tcD c q = some y' → D1 q = some y' := fun q y' e => by
    have := dd_of ti (fun q hq => e1 q (by omega)) q y' e
    exact this
  have cc : ∀ i, ¬ hlI (qs ++ shQ (cs.length + 1 + (co.length + 1)) qb) (cs.length :: es) (some (cs.length + 1 + co.length)) (cs.length + 1 + i) → i < co.length + 1 + bo.length → C (N + (cs.length + 1) + i) = (co ++ (y0 :: bo)).getD i 0 := fun i hn hi => by
    rw [Nat.add_assoc, hC2 (cs.length + 1 + i) (by omega) hn, show cs.length + 1 + i = cs.length + (i + 1) by omega, gd_b]; rfl
  obtain ⟨D, z1, z2, z3, z4, z5, z6⟩ := Ifb (N := N + (cs.length + 1)) (ρ := ρb) (Bd := Bd) (C := C) (c := mkc c C (N + (cs.length + 1)) D1) hc (by rw [Nat.add_assoc]; exact hb) t1 rfl (fun q hq => no q (by omega)) f1 (StC_k cn dU1) (LpC_k lp (by omega) dU1) (by omega) (by omega) (by omega) (by omega) (by omega) (fun _ _ => rfl) (fun i hi => by
    rw [cc i (fun z => ?_) (by omega)]
    · exact gd_l hi
    · rcases z with (z | z) | z
      · rcases nq _ z with y | ⟨j, y1, y2⟩ <;> omega
      · rcases ne _ z with y | y <;> omega
      · have := Option.some.inj z; omega) (fun i hi hn => by
    rw [Nat.add_assoc, cc (co.length + 1 + i) (fun z => ?_) (by omega), show co.length + 1 + i = co.length + (i + 1) by omega, gd_r]
    · rfl
    · rcases z with (z | z) | z
      · rcases nq _ z with y | ⟨j, y1, y2⟩
        · omega
        · exact hn (by rw [show i = j by omega]; exact y1)
      · rcases ne _ z with y | y <;> omega
      · have := Option.some.inj z; omega)
  have eT : N + (cs.length + 1) + (co.length + 1 + bo.length) = N + (cs.length + 1 + (co.length + 1) + bo.length) := by omega
  rw [eT] at z1 z3
  have o4 : ∀ q, q ≤ N + (cs.length + 1) → D q = D1 q := fun q hq => z2 q hq
  refine ⟨D, TI_h (TI_R z1 (by omega)) (fun q => ?_), fun q hq => (o4 q (by omega)).trans (e1 q hq), z3, fun i hi => ?_, fun i hi => ?_, fun i e => ?_⟩
  · constructor
    · rintro (z | ⟨i, (z | z) | z, e⟩)
      · exact Or.inl (Or.inl z)
      · rcases nq i z with y | ⟨j, y1, y2⟩
        · exact Or.inl (Or.inr ⟨i, Or.inl (Or.inl y.1), e⟩)
        · exact Or.inr ⟨co.length + 1 + j, Or.inl (Or.inl (shQ_m.2 ⟨j, y1, rfl⟩)), by omega⟩
      · exact Or.inl (Or.inr ⟨i, Or.inl (Or.inr z), e⟩)
      · have := Option.some.inj z
        exact Or.inr ⟨co.length, Or.inr rfl, by omega⟩
    · rintro ((z | ⟨i, (z | z) | z, e⟩) | ⟨i, (z | z) | z, e⟩)
      · exact Or.inl z
      · exact Or.inr ⟨i, Or.inl (Or.inl (List.mem_append_left _ z)), e⟩
      · exact Or.inr ⟨i, Or.inl (Or.inr z), e⟩
      · cases z
      · obtain ⟨j, y1, y2⟩ := shQ_m.1 z
        exact Or.inr ⟨cs.length + 1 + (co.length + 1) + j, Or.inl (Or.inl (List.mem_append_right _ (shQ_m.2 ⟨j, y1, rfl⟩))), by omega⟩
      · exact absurd z List.not_mem_nil
      · have := Option.some.inj z
        exact Or.inr ⟨cs.length + 1 + co.length, Or.inr rfl, by omega⟩
  · rcases nq i hi with y | ⟨j, y1, y2⟩
    · obtain ⟨r1, v1, v2, v3⟩ := q1 i y.1
      exact ⟨r1, v1, v2, (o4 _ (by omega)).trans v3⟩
    · obtain ⟨r1, v1, v2, v3⟩ := z4 j y1
      exact ⟨r1, v1, v2, by rw [y2, show N + (cs.length + 1 + (co.length + 1) + j) = N + (cs.length + 1) + (co.length + 1) + j by omega]; exact v3⟩
  · have := ne i hi
    exact (o4 _ (by omega)).trans (s1 i hi)
  · have e' := Option.some.inj e
    refine ⟨R - cs.length - ns - 1 - co.length, ρb, ⟨by omega, by omega, by omega⟩, ?_, ?_⟩
    · rw [← e', show N + (cs.length + 1 + co.length) = N + (cs.length + 1) + co.length by omega]; exact z5
    · rw [← e', show N + (cs.length + 1 + co.length) + 1 = N + (cs.length + 1) + co.length + 1 by omega]; exact z6
end CWM
