section JnS435
/-! The class: segments with jumps that are still to be aimed. -/
section CUT
variable {c c' c1 c2 : Ct} {O O' H H' : Nat → Prop} {u nu nu' pc ln R R' p d rk k op w n m m' q t t' : Nat} {r pre ms ms' : List Nat} {x v : Int32} {Vm : Nat → Prop} {cs ins o : List Int32} {hl : List (Nat × Nat × Nat)} {e0 e1 : Nat × Nat × Nat} {gl : Nat × (Nat → Nat → Prop)}
theorem TI_h (t : TI O H nu R c) (h : ∀ q, H' q ↔ H q) : TI O H' nu R c := by
  have e : H' = H := funext (fun q => propext (h q))
  rw [e]; exact t
/-- a jump that waits: its place, its op, the values below what it looks at -/
def HlD (u N d : Nat) (r : List Nat) (R : Nat) (D : Nat → Option (Nat × Nat × List Nat × Nat)) (e : Nat × Nat × Nat) : Prop := D (N + e.1) = some (u, d + e.2.2 + (if e.2.1 = 3 then 0 else 1), r, R - e.1) ∧ (¬ e.2.1 = 3 → D (N + e.1 + 1) = some (u, d + e.2.2, r, R - e.1 - 1))
def PKh (u p : Nat) (gl : Nat × (Nat → Nat → Prop)) (Vm : Nat → Prop) (hl : List (Nat × Nat × Nat)) (t : Nat) (cs : List Int32) : Prop := t ≤ cs.length ∧ (∀ e, e ∈ hl → e.1 < cs.length ∧ 3 ≤ e.2.1 ∧ e.2.1 ≤ 7) ∧ hl.Pairwise (fun a b => ¬ a.1 = b.1) ∧ ∀ (O H : Nat → Prop) (nu R : Nat) (c : Ct) (d : Nat) (pre : List Nat) (w : Nat) (ms : List Nat) (C : Nat → Int32), TI O H nu R c → ¬ O (tcN c) → tcD c (tcN c) = some (u, d, sh pre w ms, R) → (∀ e, e ∈ pre → e < bsl) → CnC O u p gl Vm nu c w ms → 1000 + cs.length ≤ R → R ≤ RK → d + cs.length ≤ 100000 → tcN c + cs.length ≤ 36864 → (∀ i, i < tcN c → C i = tcC c i) → (∀ i, i < cs.length → (∀ e, e ∈ hl → ¬ e.1 = i) → C (tcN c + i) = cs.getD i 0) → ∃ D, TI O (fun q => H q ∨ ∃ e, e ∈ hl ∧ q = tcN c + e.1) nu (R - cs.length) (mkc c C (tcN c + cs.length) D) ∧ (∀ q, q ≤ tcN c → D q = tcD c q) ∧ D (tcN c + cs.length) = some (u, d + t, sh pre w ms, R - cs.length) ∧ ∀ e, e ∈ hl → HlD u (tcN c) d (sh pre w ms) R D e
theorem Ph_nil (u p : Nat) (gl : Nat × (Nat → Nat → Prop)) (Vm : Nat → Prop) : PKh u p gl Vm [] 0 [] := by
  refine ⟨Nat.le_refl _, fun e h => absurd h List.not_mem_nil, List.Pairwise.nil, fun O H nu R c d pre w ms C ti no hD hp cn hR1 hR2 hd hN hC1 hC2 => ?_⟩
  obtain ⟨D, a1, a2, a3⟩ := (Sgm_nil u p gl Vm).2 O H nu R c d pre w ms C ti no hD hp cn hR1 hR2 hd hN hC1 (fun i hi => hC2 i hi (fun e h => absurd h List.not_mem_nil))
  exact ⟨D, TI_h a1 (fun q => ⟨fun z => z.elim id (fun ⟨e, h, _⟩ => absurd h List.not_mem_nil), Or.inl⟩), a2, a3, fun e h => absurd h List.not_mem_nil⟩
theorem Ph_end (h : PKh u p gl Vm [] t cs) : Sgm u p gl Vm t cs := by
  obtain ⟨h1, h2, h3, h4⟩ := h
  refine ⟨h1, fun O H nu R c d pre w ms C ti no hD hp cn hR1 hR2 hd hN hC1 hC2 => ?_⟩
  obtain ⟨D, a1, a2, a3, _⟩ := h4 O H nu R c d pre w ms C ti no hD hp cn hR1 hR2 hd hN hC1 (fun i hi _ => hC2 i hi)
  exact ⟨D, TI_h a1 (fun q => ⟨Or.inl, fun z => z.elim id (fun ⟨e, h, _⟩ => absurd h List.not_mem_nil)⟩), a2, a3⟩
theorem noO_of (ti : TI O H nu R c) : ∀ q, tcN c < q → ¬ O q := fun q hq o => by
  obtain ⟨y, ey⟩ := (ti.2.1 _ o).2
  rw [ti.2.2.2.1 _ hq] at ey
  cases ey
theorem noO_ge (ti : TI O H nu R c) (no : ¬ O (tcN c)) : ∀ q, tcN c ≤ q → ¬ O q := fun q hq o => by
  by_cases z : q = tcN c
  · exact no (z ▸ o)
  · exact noO_of ti q (by omega) o
theorem Ph_sg (h : PKh u p gl Vm hl t cs) (g : Sgm u p gl Vm n o) : PKh u p gl Vm hl (t + n) (cs ++ o) := by
  obtain ⟨h1, h2, h3, h4⟩ := h
  obtain ⟨g1, g2⟩ := g
  refine ⟨by rw [List.length_append]; omega, fun e he => ⟨by rw [List.length_append]; have := (h2 e he).1; omega, (h2 e he).2⟩, h3, fun O H nu R c d pre w ms C ti no hD hp cn hR1 hR2 hd hN hC1 hC2 => ?_⟩
  rw [List.length_append] at hR1 hd hN hC2 ⊢
  obtain ⟨D1, t1, e1, f1, k1⟩ := h4 O H nu R c d pre w ms C ti no hD hp cn (by omega) hR2 (by omega) (by omega) hC1 (fun i hi hn => by rw [hC2 i (by omega) hn, gd_l hi])
  have dd := dd_of ti e1
  obtain ⟨D2, t2, e2, f2⟩ := g2 O _ nu (R - cs.length) (mkc c C (tcN c + cs.length) D1) (d + t) pre w ms C t1 (noO_ge ti no _ (Nat.le_add_right _ _)) f1 hp (CnC_k cn dd) (by omega) (by omega) (by omega) (by show tcN c + cs.length + o.length ≤ _; omega) (fun _ _ => rfl) (fun i hi => by
    show C (tcN c + cs.length + i) = _
    rw [Nat.add_assoc, hC2 _ (by omega) (fun e he q => by have := (h2 e he).1; omega), gd_r])
  refine ⟨D2, ?_, fun q hq => ?_, ?_, fun e he => ?_⟩
  · rw [← Nat.sub_sub, ← Nat.add_assoc]; exact t2
  · rw [e2 q (by show q ≤ tcN c + cs.length; omega), ← e1 q hq]
  · rw [← Nat.sub_sub, ← Nat.add_assoc, ← Nat.add_assoc]; exact f2
  · have l := (h2 e he).1
    obtain ⟨k2, k3⟩ := k1 e he
    exact ⟨(e2 _ (by show tcN c + e.1 ≤ tcN c + cs.length; omega)).trans k2, fun z => (e2 _ (by show tcN c + e.1 + 1 ≤ tcN c + cs.length; omega)).trans (k3 z)⟩
/-- a segment that makes n of m -/
theorem Ph_s2 {b : Nat} (h : PKh u p gl Vm hl (b + m) cs) (g2 : Sg2 u p gl Vm m n o) (g1 : b + n ≤ cs.length + o.length) : PKh u p gl Vm hl (b + n) (cs ++ o) := by
  obtain ⟨h1, h2, h3, h4⟩ := h
  refine ⟨by rw [List.length_append]; omega, fun e he => ⟨by rw [List.length_append]; have := (h2 e he).1; omega, (h2 e he).2⟩, h3, fun O H nu R c d pre w ms C ti no hD hp cn hR1 hR2 hd hN hC1 hC2 => ?_⟩
  rw [List.length_append] at hR1 hd hN hC2 ⊢
  obtain ⟨D1, t1, e1, f1, k1⟩ := h4 O H nu R c d pre w ms C ti no hD hp cn (by omega) hR2 (by omega) (by omega) hC1 (fun i hi hn => by rw [hC2 i (by omega) hn, gd_l hi])
  have dd := dd_of ti e1
  obtain ⟨D2, t2, e2, f2⟩ := g2 O _ nu (R - cs.length) (mkc c C (tcN c + cs.length) D1) (d + b) pre w ms C t1 (noO_ge ti no _ (Nat.le_add_right _ _)) (by rw [Nat.add_assoc]; exact f1) hp (CnC_k cn dd) (by omega) (by omega) (by omega) (by show tcN c + cs.length + o.length ≤ _; omega) (fun _ _ => rfl) (fun i hi => by
    show C (tcN c + cs.length + i) = _
    rw [Nat.add_assoc, hC2 _ (by omega) (fun e he q => by have := (h2 e he).1; omega), gd_r])
  refine ⟨D2, ?_, fun q hq => ?_, ?_, fun e he => ?_⟩
  · rw [← Nat.sub_sub, ← Nat.add_assoc]; exact t2
  · rw [e2 q (by show q ≤ tcN c + cs.length; omega), ← e1 q hq]
  · rw [← Nat.sub_sub, ← Nat.add_assoc, ← Nat.add_assoc]; exact f2
  · have l := (h2 e he).1
    obtain ⟨k2, k3⟩ := k1 e he
    exact ⟨(e2 _ (by show tcN c + e.1 ≤ tcN c + cs.length; omega)).trans k2, fun z => (e2 _ (by show tcN c + e.1 + 1 ≤ tcN c + cs.length; omega)).trans (k3 z)⟩
/-- one instruction more -/
theorem Ph_it {b : Nat} (h : PKh u p gl Vm hl (b + m) cs) (hl1 : 1 ≤ ins.length) (hm : b + m' ≤ cs.length + ins.length) (it : Itc u p gl Vm m m' ins) : PKh u p gl Vm hl (b + m') (cs ++ ins) := by
  obtain ⟨h1, h2, h3, h4⟩ := h
  refine ⟨by rw [List.length_append]; omega, fun e he => ⟨by rw [List.length_append]; have := (h2 e he).1; omega, (h2 e he).2⟩, h3, fun O H nu R c d pre w ms C ti no hD hp cn hR1 hR2 hd hN hC1 hC2 => ?_⟩
  rw [List.length_append] at hR1 hd hN hC2 ⊢
  obtain ⟨D1, t1, e1, f1, k1⟩ := h4 O H nu R c d pre w ms C ti no hD hp cn (by omega) hR2 (by omega) (by omega) hC1 (fun i hi hn => by rw [hC2 i (by omega) hn, gd_l hi])
  have dd := dd_of ti e1
  have nO := noO_ge ti no
  let D2 : Nat → Option (Nat × Nat × List Nat × Nat) := fun q => if q = tcN c + cs.length + ins.length then some (u, d + (b + m'), sh pre w ms, R - cs.length - ins.length) else D1 q
  have d2 : ∀ q, ¬ q = tcN c + cs.length + ins.length → D2 q = D1 q := fun q hq => if_neg hq
  have d2e : D2 (tcN c + cs.length + ins.length) = some (u, d + (b + m'), sh pre w ms, R - cs.length - ins.length) := if_pos rfl
  have nb : D1 (tcN c + cs.length + ins.length) = none := t1.2.2.2.1 _ (by show tcN c + cs.length < _; omega)
  have dd2 : ∀ q y, D1 q = some y → D2 q = some y := fun q y e => by
    rw [d2 q (fun z => by rw [z, nb] at e; cases e)]; exact e
  have t2 : TI O (fun q => H q ∨ ∃ e, e ∈ hl ∧ q = tcN c + e.1) nu (R - cs.length - ins.length) (mkc c C (tcN c + cs.length + ins.length) D2) := by
    refine TI_em (ln := ins.length) (y := some (u, d + (b + m'), sh pre w ms, R - cs.length - ins.length)) (Hn := False) (On := False) t1 hl1 (by show tcN c + cs.length + ins.length ≤ _; omega) (fun _ _ => rfl) rfl ⟨⟨rfl, rfl⟩, rfl, rfl⟩ (fun q => rfl) (fun q => ⟨Or.inl, fun z => z.elim id (fun w => w.2.elim)⟩) (fun z => z.elim) (fun q => ⟨Or.inl, fun z => z.elim id (fun w => w.2.elim)⟩) (fun o => nO _ (Nat.le_add_right _ _) o) (fun _ y ey => ?_) (Nat.sub_le _ _)
    have ey' : D1 (tcN c + cs.length) = some y := ey
    rw [f1] at ey'
    cases ey'
    exact it O nu (R - cs.length) (mkc c C (tcN c + cs.length + ins.length) D2) (tcN c + cs.length) (d + b) pre w ms (fun i hi => by
      show C (tcN c + cs.length + i) = _
      rw [Nat.add_assoc, hC2 _ (by omega) (fun e he q => by have := (h2 e he).1; omega), gd_r]) (Nat.le_refl _) (nO _ (Nat.le_add_right _ _)) (nO _ (by omega)) (by have z := dd2 _ _ f1; rw [← Nat.add_assoc] at z; exact z) (by have z := d2e; rw [← Nat.add_assoc] at z; exact z) hp (CnC_k cn (fun q y e => dd2 q y (dd q y e))) (by omega) (by omega) ⟨by omega, by omega⟩
  refine ⟨D2, ?_, fun q hq => ?_, ?_, fun e he => ?_⟩
  · rw [← Nat.sub_sub, ← Nat.add_assoc]; exact t2
  · rw [d2 q (by omega), ← e1 q hq]
  · rw [← Nat.sub_sub, ← Nat.add_assoc]; exact d2e
  · obtain ⟨k2, k3⟩ := k1 e he
    exact ⟨dd2 _ _ k2, fun z => dd2 _ _ (k3 z)⟩
/-- a jump is laid that looks at the topmost value; or one that doesn't: then it goes on as one likes -/
theorem Ph_j (h : PKh u p gl Vm hl t cs) (ho : 3 ≤ op ∧ op ≤ 7) (ht : ¬ op = 3 → t = t' + 1) (h3 : op = 3 → t' ≤ cs.length + 1) (x : Int32) : PKh u p gl Vm ((cs.length, op, if op = 3 then t else t') :: hl) t' (cs ++ [em op x]) := by
  obtain ⟨h1, h2, h3', h4⟩ := h
  have el : ∀ i : Int32, [i].length = 1 := fun _ => rfl
  have tb : t' ≤ cs.length + 1 := by
    by_cases z : op = 3
    · exact h3 z
    · have := ht z; omega
  refine ⟨by rw [List.length_append, el]; exact tb, fun e he => ?_, ?_, fun O H nu R c d pre w ms C ti no hD hp cn hR1 hR2 hd hN hC1 hC2 => ?_⟩
  · rw [List.length_append, el]
    rcases List.mem_cons.1 he with z | z
    · rw [z]; exact ⟨by show cs.length < _; omega, ho⟩
    · exact ⟨by have := (h2 e z).1; omega, (h2 e z).2⟩
  · refine List.Pairwise.cons (fun e he => ?_) h3'
    have := (h2 e he).1
    show ¬ cs.length = e.1
    omega
  rw [List.length_append, el] at hR1 hd hN hC2 ⊢
  obtain ⟨D1, t1, e1, f1, k1⟩ := h4 O H nu R c d pre w ms C ti no hD hp cn (by omega) hR2 (by omega) (by omega) hC1 (fun i hi hn => by
    rw [hC2 i (by omega) (fun e he => ?_), gd_l hi]
    rcases List.mem_cons.1 he with z | z
    · rw [z]; show ¬ cs.length = i; omega
    · exact hn e z)
  have nO := noO_ge ti no
  let D2 : Nat → Option (Nat × Nat × List Nat × Nat) := fun q => if q = tcN c + cs.length + 1 then some (u, d + t', sh pre w ms, R - cs.length - 1) else D1 q
  have d2 : ∀ q, ¬ q = tcN c + cs.length + 1 → D2 q = D1 q := fun q hq => if_neg hq
  have d2e : D2 (tcN c + cs.length + 1) = some (u, d + t', sh pre w ms, R - cs.length - 1) := if_pos rfl
  have nb : D1 (tcN c + cs.length + 1) = none := t1.2.2.2.1 _ (by show tcN c + cs.length < _; omega)
  have dd2 : ∀ q y, D1 q = some y → D2 q = some y := fun q y e => by
    rw [d2 q (fun z => by rw [z, nb] at e; cases e)]; exact e
  have t2 : TI O (fun q => H q ∨ ∃ e, e ∈ ((cs.length, op, if op = 3 then t else t') :: hl) ∧ q = tcN c + e.1) nu (R - cs.length - 1) (mkc c C (tcN c + cs.length + 1) D2) := by
    refine TI_em (ln := 1) (y := some (u, d + t', sh pre w ms, R - cs.length - 1)) (Hn := True) (On := False) t1 (Nat.le_refl _) (by show tcN c + cs.length + 1 ≤ _; omega) (fun _ _ => rfl) rfl ⟨⟨rfl, rfl⟩, rfl, rfl⟩ (fun q => rfl) (fun q => ⟨Or.inl, fun z => z.elim id (fun w => w.2.elim)⟩) (fun z => z.elim) (fun q => ?_) (fun _ => trivial) (fun z => absurd trivial z) (Nat.sub_le _ _)
    constructor
    · rintro (z | ⟨e, he, hq⟩)
      · exact Or.inl (Or.inl z)
      · rcases List.mem_cons.1 he with y | y
        · rw [y] at hq; exact Or.inr ⟨hq, trivial⟩
        · exact Or.inl (Or.inr ⟨e, y, hq⟩)
    · rintro ((z | ⟨e, he, hq⟩) | ⟨z, _⟩)
      · exact Or.inl z
      · exact Or.inr ⟨e, List.mem_cons_of_mem _ he, hq⟩
      · exact Or.inr ⟨_, List.mem_cons_self, z⟩
  refine ⟨D2, ?_, fun q hq => ?_, ?_, fun e he => ?_⟩
  · rw [← Nat.sub_sub, ← Nat.add_assoc]; exact t2
  · rw [d2 q (by omega), ← e1 q hq]
  · rw [← Nat.sub_sub, ← Nat.add_assoc]; exact d2e
  · rcases List.mem_cons.1 he with y | y
    · rw [y]
      refine ⟨?_, fun z => ?_⟩
      · show D2 (tcN c + cs.length) = some (u, d + (if op = 3 then t else t') + (if op = 3 then 0 else 1), sh pre w ms, R - cs.length)
        rw [d2 _ (by omega), f1]
        by_cases z : op = 3
        · rw [if_pos z, if_pos z]; rfl
        · rw [if_neg z, if_neg z, ht z]; rfl
      · show D2 (tcN c + cs.length + 1) = some (u, d + (if op = 3 then t else t'), sh pre w ms, R - cs.length - 1)
        have z' : ¬ op = 3 := z
        rw [d2e, if_neg z']
    · obtain ⟨k2, k3⟩ := k1 e y
      exact ⟨dd2 _ _ k2, fun z => dd2 _ _ (k3 z)⟩
theorem Ph_sw (h : PKh u p gl Vm (e0 :: e1 :: hl) t cs) : PKh u p gl Vm (e1 :: e0 :: hl) t cs := by
  obtain ⟨h1, h2, h3, h4⟩ := h
  have mm : ∀ e, e ∈ e1 :: e0 :: hl ↔ e ∈ e0 :: e1 :: hl := fun e => by
    rw [List.mem_cons, List.mem_cons, List.mem_cons, List.mem_cons]
    exact ⟨fun z => z.elim (fun y => Or.inr (Or.inl y)) (fun y => y.elim Or.inl (fun w => Or.inr (Or.inr w))), fun z => z.elim (fun y => Or.inr (Or.inl y)) (fun y => y.elim Or.inl (fun w => Or.inr (Or.inr w)))⟩
  refine ⟨h1, fun e he => h2 e ((mm e).1 he), ?_, fun O H nu R c d pre w ms C ti no hD hp cn hR1 hR2 hd hN hC1 hC2 => ?_⟩
  · rw [List.pairwise_cons, List.pairwise_cons] at h3 ⊢
    refine ⟨fun e he => ?_, fun e he => h3.1 e (List.mem_cons_of_mem _ he), h3.2.2⟩
    rcases List.mem_cons.1 he with y | y
    · rw [y]; exact fun z => h3.1 e1 List.mem_cons_self z.symm
    · exact h3.2.1 e y
  · obtain ⟨D, a1, a2, a3, a4⟩ := h4 O H nu R c d pre w ms C ti no hD hp cn hR1 hR2 hd hN hC1 (fun i hi hn => hC2 i hi (fun e he => hn e ((mm e).1 he)))
    exact ⟨D, TI_h a1 (fun q => ⟨fun z => z.elim Or.inl (fun ⟨e, h, y⟩ => Or.inr ⟨e, (mm e).1 h, y⟩), fun z => z.elim Or.inl (fun ⟨e, h, y⟩ => Or.inr ⟨e, (mm e).2 h, y⟩)⟩), a2, a3, fun e he => a4 e ((mm e).1 he)⟩
theorem gd_set {l : List Int32} {h i : Nat} (y : Int32) : (l.set h y).getD i 0 = if i = h ∧ h < l.length then y else l.getD i 0 := by
  rw [List.getD_eq_getElem?_getD, List.getD_eq_getElem?_getD, List.getElem?_set]
  by_cases z : h = i
  · rw [if_pos z]
    by_cases y' : h < l.length
    · rw [if_pos y', if_pos ⟨z.symm, y'⟩]; rfl
    · rw [if_neg y', if_neg (fun q => y' q.2), List.getElem?_eq_none (by omega)]
  · rw [if_neg z, if_neg (fun q => z q.1.symm)]
/-- it comes here -/
theorem Ph_fi {h tt : Nat} (k : PKh u p gl Vm ((h, op, tt) :: hl) t cs) (ht : t = tt + (if 6 ≤ op then 1 else 0)) : PKh u p gl Vm hl t (cs.set h (em op (nI (cs.length - h)))) := by
  obtain ⟨h1, h2, h3, h4⟩ := k
  rw [List.pairwise_cons] at h3
  have hh := h2 _ List.mem_cons_self
  have hlt : h < cs.length := hh.1
  have ho : 3 ≤ op ∧ op ≤ 7 := hh.2
  have el : (cs.set h (em op (nI (cs.length - h)))).length = cs.length := List.length_set
  refine ⟨by rw [el]; exact h1, fun e he => by rw [el]; exact h2 e (List.mem_cons_of_mem _ he), h3.2, fun O H nu R c d pre w ms C ti no hD hp cn hR1 hR2 hd hN hC1 hC2 => ?_⟩
  rw [el] at hR1 hd hN hC2 ⊢
  obtain ⟨D, a1, a2, a3, a4⟩ := h4 O H nu R c d pre w ms C ti no hD hp cn hR1 hR2 hd hN hC1 (fun i hi hn => by
    rw [hC2 i hi (fun e he => hn e (List.mem_cons_of_mem _ he)), gd_set, if_neg (fun z => hn _ List.mem_cons_self z.1.symm)])
  have ch : C (tcN c + h) = em op (nI (cs.length - h)) := by
    rw [hC2 h hlt (fun e he z => h3.1 e he z.symm), gd_set, if_pos ⟨rfl, hlt⟩]
  have nO := noO_ge ti no
  have dd := dd_of ti a2
  obtain ⟨k1, k2⟩ := a4 _ List.mem_cons_self
  have k1' : D (tcN c + h) = some (u, d + tt + (if op = 3 then 0 else 1), sh pre w ms, R - h) := k1
  have k2' : ¬ op = 3 → D (tcN c + h + 1) = some (u, d + tt, sh pre w ms, R - h - 1) := k2
  have cn3 : CnC O u p gl Vm nu (mkc c C (tcN c + cs.length) D) w ms := CnC_k cn dd
  have t36 : tcN c + cs.length ≤ 36864 := hN
  have tg : uN (nI (tcN c + h) + nI (cs.length - h)) = tcN c + cs.length := by
    rw [u_add (by rw [u_n (by omega), u_n (by omega)]; omega), u_n (by omega), u_n (by omega)]
    omega
  have z := OKq_of (O := O) (nu := nu) (c := mkc c C (tcN c + cs.length) D) (pc := tcN c + h) (ln := 1) (R := R - h) (x := nI (cs.length - h)) (op := op) k1' (nO _ (Nat.le_add_right _ _)) cn.2.1 (by show tcN c + h + 1 ≤ tcN c + cs.length; omega) (by omega) (by omega) (Nat.le_refl _) (by show C (tcN c + h) &&& 255 = _; rw [ch]; exact em_lo (by omega)) (by show C (tcN c + h) >>> ((8 : Int32) &&& 31) = _; rw [ch]; exact em_hi (by omega) (Sm3_n (by omega))) (fun c' a hc ro => OKI_1 ⟨by omega, by omega⟩ (by
    refine ⟨fun z => absurd z (by omega), fun z => ?_, fun z => ?_, fun z => ?_, fun z => absurd z (by omega)⟩
    · rw [if_pos z, tg]
      rw [if_neg (by omega)] at ht
      rw [ht] at a3
      exact it_N a cn3 hp a3 (nO _ (Nat.le_add_right _ _)) (by omega)
    · rw [if_neg (by omega)] at ht
      rw [ht] at a3
      refine ⟨d + tt, by rw [if_neg (by omega)], it_N a cn3 hp (k2' (by omega)) (nO _ (by omega)) (by omega), ?_⟩
      rw [tg]
      exact it_N a cn3 hp a3 (nO _ (Nat.le_add_right _ _)) (by omega)
    · rw [if_pos (by omega)] at ht
      rw [ht] at a3
      refine ⟨d + tt, by rw [if_neg (by omega)], it_N a cn3 hp (k2' (by omega)) (nO _ (by omega)) (by omega), ?_⟩
      rw [tg]
      exact it_S a cn3 hp a3 (nO _ (Nat.le_add_right _ _)) (by omega)))
  refine ⟨D, ?_, a2, a3, fun e he => a4 e (List.mem_cons_of_mem _ he)⟩
  refine TI_fi (h := tcN c + h) (ln := 1) a1 (Nat.le_refl _) (Or.inr ⟨_, List.mem_cons_self, rfl⟩) (nO _ (Nat.le_add_right _ _)) (by show tcN c + h + 1 ≤ tcN c + cs.length; omega) (fun _ _ => rfl) rfl k1' (fun i y i1 i2 => absurd i1 (by omega)) (fun h' hh' => ?_) (fun q => ?_) ?_
  · omega
  · constructor
    · rintro (y | ⟨e, he, hq⟩)
      · refine ⟨Or.inl y, fun e => ?_⟩
        have := ti.2.2.1 q y
        omega
      · refine ⟨Or.inr ⟨e, List.mem_cons_of_mem _ he, hq⟩, fun e' => h3.1 e he ?_⟩
        show h = e.1
        omega
    · rintro ⟨y | ⟨e, he, hq⟩, n⟩
      · exact Or.inl y
      · rcases List.mem_cons.1 he with y | y
        · rw [y] at hq; exact absurd hq n
        · exact Or.inr ⟨e, y, hq⟩
  · intro c' a hc ro
    exact z c' a hc (fun p x o e => Nat.lt_of_lt_of_le (ro p x o e) (by omega))
end CUT
end JnS435
section JnS436
/-! The class: calls of funcs and long rows, typed. -/
section CUU
variable {c c' c1 c2 : Ct} {O O' H H' : Nat → Prop} {u nu nu' pc ln R R' p d rk k op w n m m' q t t' : Nat} {r pre ms ms' : List Nat} {x v : Int32} {Vm : Nat → Prop} {cs ins o as : List Int32} {gl : Nat × (Nat → Nat → Prop)} {C : Nat → Int32} {y : Nat × Nat × List Nat × Nat}
/-- one place more -/
def up1 (c : Ct) (ln : Nat) (y : Nat × Nat × List Nat × Nat) : Nat → Option (Nat × Nat × List Nat × Nat) := fun q => if q = tcN c + ln then some y else tcD c q
theorem up1_e : up1 c ln y (tcN c + ln) = some y := if_pos rfl
theorem up1_o (h : ¬ q = tcN c + ln) : up1 c ln y q = tcD c q := if_neg h
theorem up1_d (t : TI O H nu R c) (l1 : 1 ≤ ln) {z : Nat × Nat × List Nat × Nat} (h : tcD c q = some z) : up1 c ln y q = some z := by
  rw [up1_o (fun e => by rw [e, t.2.2.2.1 _ (by omega)] at h; cases h)]; exact h
theorem TI_s1 (t : TI O H nu R c) (no : ¬ O (tcN c)) (l1 : 1 ≤ ln) (hN : tcN c + ln ≤ 36864) (hC1 : ∀ i, i < tcN c → C i = tcC c i) (ok : ∀ x, tcD c (tcN c) = some x → OKq O (x.1 % 100) nu (mkc c C (tcN c + ln) (up1 c ln y)) (tcN c) ln R) (hR : R' ≤ R) : TI O H nu R' (mkc c C (tcN c + ln) (up1 c ln y)) := TI_em (ln := ln) (y := some y) (Hn := False) (On := False) t l1 hN hC1 rfl ⟨⟨rfl, rfl⟩, rfl, rfl⟩ (fun q => rfl) (fun q => ⟨Or.inl, fun z => z.elim id (fun w => w.2.elim)⟩) (fun z => z.elim) (fun q => ⟨Or.inl, fun z => z.elim id (fun w => w.2.elim)⟩) (fun o => no o) (fun _ x e => ok x e) hR
theorem sh_pam {K : Nat → Option Int32} {pb : Nat} : ∀ pre : List Nat, (∀ e, e ∈ pre → e < bsl) → (∀ i, i ∈ ms → bsl ≤ i → (i - bsl) % 500000 < p) → PaM K pb 180 (sh pre w ms) → PaM K pb p (sh pre w ms)
  | [], _, h, z => ⟨fun c i h1 h2 => ⟨h i h1 h2, (z.1 c i h1 h2).2⟩, fun c => absurd (Nat.le_add_right _ _) c⟩
  | e :: pre, hp, h, z => ⟨fun c => absurd c (by have := hp e List.mem_cons_self; omega), fun c => sh_pam pre (fun i hi => hp i (List.mem_cons_of_mem _ hi)) h (z.2 c)⟩
theorem pre_c (hp : ∀ e, e ∈ pre → e < bsl) {e0 : Nat} (h : e0 < bsl) : ∀ e, e ∈ e0 :: pre → e < bsl := fun e he => by
  rcases List.mem_cons.1 he with z | z
  · rw [z]; exact h
  · exact hp e z
/-- f ( .. ) -/
theorem Sgm_ca {vv dep : Nat} (hf : gl.2 vv n) (hdp : dep < 256) (h : Sgm u p gl Vm n as) : Sgm u p gl Vm 1 (em 16 0 :: (as ++ [em 17 (nI vv), em dep (nI p)])) := by
  obtain ⟨l1, h1⟩ := h
  have el : (em 16 0 :: (as ++ [em 17 (nI vv), em dep (nI p)])).length = as.length + 3 := by rw [List.length_cons, List.length_append]; rfl
  refine ⟨by rw [el]; omega, fun O H nu R c d pre w ms C ti no hD hp cn hR1 hR2 hd hN hC1 hC2 => ?_⟩
  rw [el] at hR1 hd hN hC2 ⊢
  have nO := noO_ge ti no
  have rk40 : RK = 40000 := rfl
  have bs : bsl = 1000000 := rfl
  obtain ⟨f1, f2, f3, f4⟩ := cn.2.2.2.1.2 vv n hf
  obtain ⟨g1, g2, g3, g4, rkE, g5, g6⟩ := cn.2.2.2.2.2.2.2 vv f1 f2 f3
  have c0 : C (tcN c) = em 16 0 := hC2 0 (by omega)
  have cA : ∀ i, i < as.length → C (tcN c + 1 + i) = as.getD i 0 := fun i hi => by
    have z := hC2 (i + 1) (by omega)
    rw [show tcN c + 1 + i = tcN c + (i + 1) from by omega, z]
    exact gd_l hi
  have cB : C (tcN c + 1 + as.length) = em 17 (nI vv) := by
    have z := hC2 (as.length + 0 + 1) (by omega)
    rw [show tcN c + 1 + as.length = tcN c + (as.length + 0 + 1) from by omega, z]
    exact gd_r 0
  have cC : C (tcN c + 1 + as.length + 1) = em dep (nI p) := by
    have z := hC2 (as.length + 1 + 1) (by omega)
    rw [show tcN c + 1 + as.length + 1 = tcN c + (as.length + 1 + 1) from by omega, z]
    exact gd_r 1
  have hp1 := pre_c (e0 := 250000 + d) hp (by omega)
  have dU1 : ∀ q y', tcD c q = some y' → up1 c 1 (u, 0, sh ((250000 + d) :: pre) w ms, R - 1) q = some y' := fun q y' e => up1_d ti (Nat.le_refl _) e
  have t1 : TI O H nu (R - 1) (mkc c C (tcN c + 1) (up1 c 1 (u, 0, sh ((250000 + d) :: pre) w ms, R - 1))) := TI_s1 ti no (Nat.le_refl _) (by omega) hC1 (fun y ey => by
    rw [hD] at ey
    cases ey
    exact OKq_of (op := 16) (x := 0) (dU1 _ _ hD) no cn.2.1 (Nat.le_refl _) (by omega) (by decide) (Nat.le_refl _) (by show C (tcN c) &&& 255 = _; rw [c0]; exact em_lo (by decide)) (by show C (tcN c) >>> ((8 : Int32) &&& 31) = _; rw [c0]; exact em_hi (by decide) Sm3_0) (fun c' a hc ro => OKI_7 (by decide) ⟨fun z => absurd z (by decide), ⟨fun _ => by
      obtain ⟨e0, s0, es⟩ := sh_ne (w := w) (ms := ms) pre
      exact ⟨e0, s0, es, by omega, it_N a (CnC_k cn dU1) hp1 up1_e (nO _ (by omega)) (by omega)⟩, fun z => absurd z (by decide), fun z => absurd z (by decide), fun z => absurd z (by decide), fun z => absurd z (by decide), fun z => absurd z (by decide), fun z => absurd z (by decide), fun z => absurd z (by decide), fun z => absurd z (by decide)⟩⟩)) (by omega)
  obtain ⟨D2, t2, e2, k2⟩ := h1 O H nu (R - 1) (mkc c C (tcN c + 1) (up1 c 1 (u, 0, sh ((250000 + d) :: pre) w ms, R - 1))) 0 ((250000 + d) :: pre) w ms C t1 (nO _ (by show tcN c ≤ tcN c + 1; omega)) up1_e hp1 (CnC_k cn dU1) (by omega) (by omega) (by omega) (by show tcN c + 1 + as.length ≤ _; omega) (fun _ _ => rfl) (fun i hi => cA i hi)
  have k2' : D2 (tcN c + 1 + as.length) = some (u, 0 + n, sh ((250000 + d) :: pre) w ms, R - 1 - as.length) := k2
  have t2' : TI O H nu (R - 1 - as.length) (mkc c C (tcN c + 1 + as.length) D2) := t2
  have dU2 : ∀ q y', tcD c q = some y' → D2 q = some y' := fun q y' e => dd_of t1 e2 q y' (dU1 q y' e)
  have dU3 : ∀ q y', D2 q = some y' → up1 (mkc c C (tcN c + 1 + as.length) D2) 2 (u, d + 1, sh pre w ms, R - (as.length + 3)) q = some y' := fun q y' e => up1_d t2' (by decide) e
  have cn3 : CnC O u p gl Vm nu (mkc c C (tcN c + 1 + as.length + 2) (up1 (mkc c C (tcN c + 1 + as.length) D2) 2 (u, d + 1, sh pre w ms, R - (as.length + 3)))) w ms := CnC_k cn (fun q y' e => dU3 q y' (dU2 q y' e))
  have t3 : TI O H nu (R - (as.length + 3)) (mkc c C (tcN c + 1 + as.length + 2) (up1 (mkc c C (tcN c + 1 + as.length) D2) 2 (u, d + 1, sh pre w ms, R - (as.length + 3)))) := TI_s1 (c := mkc c C (tcN c + 1 + as.length) D2) t2' (nO _ (by show tcN c ≤ tcN c + 1 + as.length; omega)) (by decide) (by show tcN c + 1 + as.length + 2 ≤ _; omega) (fun _ _ => rfl) (fun y ey => by
    have ey' : D2 (tcN c + 1 + as.length) = some y := ey
    rw [k2'] at ey'
    cases ey'
    refine OKq_of (op := 17) (x := nI vv) (dU3 _ _ k2') (nO _ (by show tcN c ≤ tcN c + 1 + as.length; omega)) cn.2.1 (by show tcN c + 1 + as.length + 1 ≤ tcN c + 1 + as.length + 2; omega) (by omega) (by decide) (by decide) (by show C (tcN c + 1 + as.length) &&& 255 = _; rw [cB]; exact em_lo (by decide)) (by show C (tcN c + 1 + as.length) >>> ((8 : Int32) &&& 31) = _; rw [cB]; exact em_hi (by decide) (Sm3_n (by omega))) (fun c' a hc ro => OKI_7 (by decide) ⟨fun _ => ?_, ⟨fun z => absurd z (by decide), fun _ => ?_, fun z => absurd z (by decide), fun z => absurd z (by decide), fun z => absurd z (by decide), fun z => absurd z (by decide), fun z => absurd z (by decide), fun z => absurd z (by decide), fun z => absurd z (by decide)⟩⟩)
    · have n1 : tcN c + 1 + as.length + 2 ≤ tcN c' := a.1
      show tcN c + 1 + as.length + 1 < tcN c'
      omega
    · have cw : tcC c' (tcN c + 1 + as.length + 1) >>> ((8 : Int32) &&& 31) = nI p := by
        have p180 := cn.2.2.2.2.1
        rw [(hc (tcN c + 1 + as.length + 1) (by show tcN c + 1 + as.length ≤ _; omega) (by show _ < tcN c + 1 + as.length + 2; omega)).trans cC]
        exact em_hi hdp (Sm3_n (by omega))
      have p180 := cn.2.2.2.2.1
      have tb := a.2.1 vv (Or.inl ⟨f1, f2⟩)
      have tbE : tcE c' vv = tcE c vv := tb.1
      have tbP : tcP c' vv = tcP c vv := tb.2.1
      have tbF : tcF c' vv = tcF c vv := tb.2.2
      have kE : tcD c' (tcE c vv) = some (vv, 0, (bsl + tcF c vv) :: Vl (tcF c vv), rkE) := (a.2.2.2.2 _ _ (dU3 _ _ (dU2 _ _ g6))).1 g4
      refine ⟨vv, d, sh pre w ms, ⟨rfl, g1, (a.2.2.1 vv (Or.inl f2)).2 f3⟩, ⟨by rw [tbP, f4]; omega, rfl, by omega⟩, by rw [tF_of a cn.1, sh_bt pre _ hp]; exact cn.2.2.1, by rw [tbP, tbF]; exact ⟨g2, g3⟩, ?_, ?_, ?_, ?_⟩
      · show uN (tcC c' (tcN c + 1 + as.length + 1) >>> ((8 : Int32) &&& 31)) ≤ 180
        rw [cw, u_n (by omega)]; exact p180
      · intro K pb z
        show PaM K pb (uN (tcC c' (tcN c + 1 + as.length + 1) >>> ((8 : Int32) &&& 31))) _
        rw [cw, u_n (by omega)]
        exact sh_pam pre hp cn.2.2.2.2.2.1 z
      · exact nxR_of a cn3.1 up1_e (nO _ (by show tcN c ≤ tcN c + 1 + as.length + 2; omega)) (by rw [sh_bt pre _ hp]; exact cn.2.2.1) (by omega)
      · rw [tbE, tbF]
        refine ⟨rkE, kE, g5, ?_⟩
        rw [tbF]
        show tcF c vv ≤ (if bsl ≤ bsl + tcF c vv then bsl + tcF c vv - bsl else _)
        rw [if_pos (Nat.le_add_right _ _)]; omega) (by omega)
  refine ⟨up1 (mkc c C (tcN c + 1 + as.length) D2) 2 (u, d + 1, sh pre w ms, R - (as.length + 3)), ?_, fun q hq => ?_, ?_⟩
  · rw [show tcN c + (as.length + 3) = tcN c + 1 + as.length + 2 from by omega]; exact t3
  · rw [up1_o (by show ¬ q = tcN c + 1 + as.length + 2; omega)]
    show D2 q = _
    rw [e2 q (by show q ≤ tcN c + 1; omega)]
    exact up1_o (by omega)
  · rw [show tcN c + (as.length + 3) = tcN c + 1 + as.length + 2 from by omega]; exact up1_e
/-- members are gathered, the first of them upon the stack: f = 1 for sets -/
def Gth (u p : Nat) (gl : Nat × (Nat → Nat → Prop)) (Vm : Nat → Prop) (f : Nat) (cs : List Int32) : Prop := f < 2 ∧ 1 ≤ cs.length ∧ ∀ (O H : Nat → Prop) (nu R : Nat) (c : Ct) (d : Nat) (pre : List Nat) (w : Nat) (ms : List Nat) (C : Nat → Int32), TI O H nu R c → ¬ O (tcN c) → tcD c (tcN c) = some (u, d, sh pre w ms, R) → (∀ e, e ∈ pre → e < bsl) → CnC O u p gl Vm nu c w ms → 1000 + cs.length ≤ R → R ≤ RK → d + cs.length ≤ 100000 → tcN c + cs.length ≤ 36864 → (∀ i, i < tcN c → C i = tcC c i) → (∀ i, i < cs.length → C (tcN c + i) = cs.getD i 0) → ∃ D, TI O H nu (R - cs.length) (mkc c C (tcN c + cs.length) D) ∧ (∀ q, q ≤ tcN c → D q = tcD c q) ∧ D (tcN c + cs.length) = some (u, 0, sh ((2 * d + f) :: pre) w ms, R - cs.length)
theorem Gth_jn (hf : op = 85 ∧ t = 1 ∨ op = 86 ∧ t = 0) (hn : 1 ≤ n ∧ n < 100000) (h : Sgm u p gl Vm n cs) : Gth u p gl Vm t (cs ++ [em op (nI n)]) := by
  obtain ⟨l1, h1⟩ := h
  have el : (cs ++ [em op (nI n)]).length = cs.length + 1 := by rw [List.length_append]; rfl
  refine ⟨by omega, by rw [el]; omega, fun O H nu R c d pre w ms C ti no hD hp cn hR1 hR2 hd hN hC1 hC2 => ?_⟩
  rw [el] at hR1 hd hN hC2 ⊢
  have nO := noO_ge ti no
  have rk40 : RK = 40000 := rfl
  have bs : bsl = 1000000 := rfl
  obtain ⟨D1, t1, e1, f1⟩ := h1 O H nu R c d pre w ms C ti no hD hp cn (by omega) hR2 (by omega) (by omega) hC1 (fun i hi => by rw [hC2 i (by omega), gd_l hi])
  have cA : C (tcN c + cs.length) = em op (nI n) := by
    have z := hC2 (cs.length + 0) (by omega)
    rw [gd_r] at z; exact z
  have hp1 := pre_c (e0 := 2 * d + t) hp (by omega)
  have dU1 : ∀ q y', tcD c q = some y' → D1 q = some y' := dd_of ti e1
  have dU2 : ∀ q y', D1 q = some y' → up1 (mkc c C (tcN c + cs.length) D1) 1 (u, 0, sh ((2 * d + t) :: pre) w ms, R - (cs.length + 1)) q = some y' := fun q y' e => up1_d t1 (Nat.le_refl _) e
  have cn3 : CnC O u p gl Vm nu (mkc c C (tcN c + cs.length + 1) (up1 (mkc c C (tcN c + cs.length) D1) 1 (u, 0, sh ((2 * d + t) :: pre) w ms, R - (cs.length + 1)))) w ms := CnC_k cn (fun q y' e => dU2 q y' (dU1 q y' e))
  have t3 : TI O H nu (R - (cs.length + 1)) (mkc c C (tcN c + cs.length + 1) (up1 (mkc c C (tcN c + cs.length) D1) 1 (u, 0, sh ((2 * d + t) :: pre) w ms, R - (cs.length + 1)))) := TI_s1 (c := mkc c C (tcN c + cs.length) D1) t1 (nO _ (by show tcN c ≤ tcN c + cs.length; omega)) (Nat.le_refl _) (by show tcN c + cs.length + 1 ≤ _; omega) (fun _ _ => rfl) (fun y ey => by
    have ey' : D1 (tcN c + cs.length) = some y := ey
    rw [f1] at ey'
    cases ey'
    refine OKq_of (op := op) (x := nI n) (dU2 _ _ f1) (nO _ (by show tcN c ≤ tcN c + cs.length; omega)) cn.2.1 (Nat.le_refl _) (by omega) (by omega) (Nat.le_refl _) (by show C (tcN c + cs.length) &&& 255 = _; rw [cA]; exact em_lo (by omega)) (by show C (tcN c + cs.length) >>> ((8 : Int32) &&& 31) = _; rw [cA]; exact em_hi (by omega) (Sm3_n (by omega))) (fun c' a hc ro => OKI_5 ⟨by omega, by omega⟩ ?_)
    have nx : Nx c' (tcN c + cs.length + 1) u 0 (sh ((2 * d + t) :: pre) w ms) (R - cs.length) := it_N (R' := R - (cs.length + 1)) a cn3 hp1 (up1_e (c := mkc c C (tcN c + cs.length) D1) (ln := 1)) (nO _ (by show tcN c ≤ tcN c + cs.length + 1; omega)) (by omega)
    have tf : ∀ n', tcF c' u ≤ bt (d + n') (sh pre w ms) := fun n' => by rw [tF_of a cn.1, sh_bt pre _ hp]; exact cn.2.2.1
    rcases hf with ⟨hf, ht⟩ | ⟨hf, ht⟩
    · subst hf
      exact ⟨fun z => absurd z (by decide), fun z => absurd z (by decide), fun z => absurd z (by decide), fun z => absurd z (by decide), fun _ => ⟨d, n, t, rfl, u_n (by omega), hn.1, by omega, by omega, tf, nx⟩, fun z => absurd z (by decide)⟩
    · subst hf
      exact ⟨fun z => absurd z (by decide), fun z => absurd z (by decide), fun z => absurd z (by decide), fun z => absurd z (by decide), fun z => absurd z (by decide), fun _ => ⟨d, n, t, rfl, u_n (by omega), hn.1, by omega, by omega, nx⟩⟩) (by omega)
  refine ⟨up1 (mkc c C (tcN c + cs.length) D1) 1 (u, 0, sh ((2 * d + t) :: pre) w ms, R - (cs.length + 1)), ?_, fun q hq => ?_, ?_⟩
  · rw [← Nat.add_assoc]; exact t3
  · rw [up1_o (by show ¬ q = tcN c + cs.length + 1; omega)]; exact e1 q hq
  · rw [← Nat.add_assoc]; exact up1_e
/-- one more is gathered -/
theorem Gth_ga (hf : op = 81 ∧ t = 1 ∨ op = 82 ∧ t = 0) (hx : Sm3 x) (g : Gth u p gl Vm t cs) (h : Sgm u p gl Vm 1 o) : Gth u p gl Vm t (cs ++ (o ++ [em op x])) := by
  obtain ⟨g1, g2, g3⟩ := g
  obtain ⟨l1, h1⟩ := h
  have el : (cs ++ (o ++ [em op x])).length = cs.length + (o.length + 1) := by rw [List.length_append, List.length_append]; rfl
  refine ⟨g1, by rw [el]; omega, fun O H nu R c d pre w ms C ti no hD hp cn hR1 hR2 hd hN hC1 hC2 => ?_⟩
  rw [el] at hR1 hd hN hC2 ⊢
  have nO := noO_ge ti no
  have rk40 : RK = 40000 := rfl
  have bs : bsl = 1000000 := rfl
  obtain ⟨D1, t1, e1, f1⟩ := g3 O H nu R c d pre w ms C ti no hD hp cn (by omega) hR2 (by omega) (by omega) hC1 (fun i hi => by rw [hC2 i (by omega), gd_l hi])
  have hp1 := pre_c (e0 := 2 * d + t) hp (by omega)
  have dU1 : ∀ q y', tcD c q = some y' → D1 q = some y' := dd_of ti e1
  obtain ⟨D2, t2, e2, f2⟩ := h1 O H nu (R - cs.length) (mkc c C (tcN c + cs.length) D1) 0 ((2 * d + t) :: pre) w ms C t1 (nO _ (by show tcN c ≤ tcN c + cs.length; omega)) f1 hp1 (CnC_k cn dU1) (by omega) (by omega) (by omega) (by show tcN c + cs.length + o.length ≤ _; omega) (fun _ _ => rfl) (fun i hi => by
    show C (tcN c + cs.length + i) = _
    rw [Nat.add_assoc, hC2 _ (by omega), gd_r, gd_l hi])
  have t2' : TI O H nu (R - cs.length - o.length) (mkc c C (tcN c + cs.length + o.length) D2) := t2
  have f2' : D2 (tcN c + cs.length + o.length) = some (u, 0 + 1, sh ((2 * d + t) :: pre) w ms, R - cs.length - o.length) := f2
  have cA : C (tcN c + cs.length + o.length) = em op x := by
    have z := hC2 (cs.length + (o.length + 0)) (by omega)
    rw [gd_r, gd_r] at z
    rw [Nat.add_assoc]; exact z
  have dU2 : ∀ q y', tcD c q = some y' → D2 q = some y' := fun q y' e => dd_of t1 e2 q y' (dU1 q y' e)
  have dU3 : ∀ q y', D2 q = some y' → up1 (mkc c C (tcN c + cs.length + o.length) D2) 1 (u, 0, sh ((2 * d + t) :: pre) w ms, R - (cs.length + (o.length + 1))) q = some y' := fun q y' e => up1_d t2' (Nat.le_refl _) e
  have cn3 : CnC O u p gl Vm nu (mkc c C (tcN c + cs.length + o.length + 1) (up1 (mkc c C (tcN c + cs.length + o.length) D2) 1 (u, 0, sh ((2 * d + t) :: pre) w ms, R - (cs.length + (o.length + 1))))) w ms := CnC_k cn (fun q y' e => dU3 q y' (dU2 q y' e))
  have t3 : TI O H nu (R - (cs.length + (o.length + 1))) (mkc c C (tcN c + cs.length + o.length + 1) (up1 (mkc c C (tcN c + cs.length + o.length) D2) 1 (u, 0, sh ((2 * d + t) :: pre) w ms, R - (cs.length + (o.length + 1))))) := TI_s1 (c := mkc c C (tcN c + cs.length + o.length) D2) t2' (nO _ (by show tcN c ≤ tcN c + cs.length + o.length; omega)) (Nat.le_refl _) (by show tcN c + cs.length + o.length + 1 ≤ _; omega) (fun _ _ => rfl) (fun y ey => by
    have ey' : D2 (tcN c + cs.length + o.length) = some y := ey
    rw [f2'] at ey'
    cases ey'
    refine OKq_of (op := op) (x := x) (dU3 _ _ f2') (nO _ (by show tcN c ≤ tcN c + cs.length + o.length; omega)) cn.2.1 (Nat.le_refl _) (by omega) (by omega) (Nat.le_refl _) (by show C (tcN c + cs.length + o.length) &&& 255 = _; rw [cA]; exact em_lo (by omega)) (by show C (tcN c + cs.length + o.length) >>> ((8 : Int32) &&& 31) = _; rw [cA]; exact em_hi (by omega) hx) (fun c' a hc ro => OKI_5 ⟨by omega, by omega⟩ ?_)
    have nx : Nx c' (tcN c + cs.length + o.length + 1) u 0 (sh ((2 * d + t) :: pre) w ms) (R - cs.length - o.length) := it_N (R' := R - (cs.length + (o.length + 1))) a cn3 hp1 (up1_e (c := mkc c C (tcN c + cs.length + o.length) D2) (ln := 1)) (nO _ (by show tcN c ≤ tcN c + cs.length + o.length + 1; omega)) (by omega)
    rcases hf with ⟨hf, ht⟩ | ⟨hf, ht⟩
    · subst hf
      exact ⟨fun z => absurd z (by decide), fun _ => ⟨2 * d + t, sh pre w ms, rfl, rfl, by omega, by omega, nx⟩, fun z => absurd z (by decide), fun z => absurd z (by decide), fun z => absurd z (by decide), fun z => absurd z (by decide)⟩
    · subst hf
      exact ⟨fun z => absurd z (by decide), fun z => absurd z (by decide), fun _ => ⟨2 * d + t, sh pre w ms, rfl, rfl, by omega, by omega, nx⟩, fun z => absurd z (by decide), fun z => absurd z (by decide), fun z => absurd z (by decide)⟩) (by omega)
  refine ⟨up1 (mkc c C (tcN c + cs.length + o.length) D2) 1 (u, 0, sh ((2 * d + t) :: pre) w ms, R - (cs.length + (o.length + 1))), ?_, fun q hq => ?_, ?_⟩
  · rw [show tcN c + (cs.length + (o.length + 1)) = tcN c + cs.length + o.length + 1 from by omega]; exact t3
  · rw [up1_o (by show ¬ q = tcN c + cs.length + o.length + 1; omega)]
    show D2 q = _
    rw [e2 q (by show q ≤ tcN c + cs.length; omega)]; exact e1 q hq
  · rw [show tcN c + (cs.length + (o.length + 1)) = tcN c + cs.length + o.length + 1 from by omega]; exact up1_e
/-- what is gathered becomes one -/
theorem Sgm_gd (ho : op = 83 ∨ op = 84) (hx : Sm3 x) (g : Gth u p gl Vm t cs) : Sgm u p gl Vm 1 (cs ++ [em op x]) := by
  obtain ⟨g1, g2, g3⟩ := g
  have el : (cs ++ [em op x]).length = cs.length + 1 := by rw [List.length_append]; rfl
  refine ⟨by rw [el]; omega, fun O H nu R c d pre w ms C ti no hD hp cn hR1 hR2 hd hN hC1 hC2 => ?_⟩
  rw [el] at hR1 hd hN hC2 ⊢
  have nO := noO_ge ti no
  have rk40 : RK = 40000 := rfl
  have bs : bsl = 1000000 := rfl
  obtain ⟨D1, t1, e1, f1⟩ := g3 O H nu R c d pre w ms C ti no hD hp cn (by omega) hR2 (by omega) (by omega) hC1 (fun i hi => by rw [hC2 i (by omega), gd_l hi])
  have cA : C (tcN c + cs.length) = em op x := by
    have z := hC2 (cs.length + 0) (by omega)
    rw [gd_r] at z; exact z
  have dU1 : ∀ q y', tcD c q = some y' → D1 q = some y' := dd_of ti e1
  have dU2 : ∀ q y', D1 q = some y' → up1 (mkc c C (tcN c + cs.length) D1) 1 (u, d + 1, sh pre w ms, R - (cs.length + 1)) q = some y' := fun q y' e => up1_d t1 (Nat.le_refl _) e
  have cn3 : CnC O u p gl Vm nu (mkc c C (tcN c + cs.length + 1) (up1 (mkc c C (tcN c + cs.length) D1) 1 (u, d + 1, sh pre w ms, R - (cs.length + 1)))) w ms := CnC_k cn (fun q y' e => dU2 q y' (dU1 q y' e))
  have t3 : TI O H nu (R - (cs.length + 1)) (mkc c C (tcN c + cs.length + 1) (up1 (mkc c C (tcN c + cs.length) D1) 1 (u, d + 1, sh pre w ms, R - (cs.length + 1)))) := TI_s1 (c := mkc c C (tcN c + cs.length) D1) t1 (nO _ (by show tcN c ≤ tcN c + cs.length; omega)) (Nat.le_refl _) (by show tcN c + cs.length + 1 ≤ _; omega) (fun _ _ => rfl) (fun y ey => by
    have ey' : D1 (tcN c + cs.length) = some y := ey
    rw [f1] at ey'
    cases ey'
    refine OKq_of (op := op) (x := x) (dU2 _ _ f1) (nO _ (by show tcN c ≤ tcN c + cs.length; omega)) cn.2.1 (Nat.le_refl _) (by omega) (by omega) (Nat.le_refl _) (by show C (tcN c + cs.length) &&& 255 = _; rw [cA]; exact em_lo (by omega)) (by show C (tcN c + cs.length) >>> ((8 : Int32) &&& 31) = _; rw [cA]; exact em_hi (by omega) hx) (fun c' a hc ro => OKI_5 ⟨by omega, by omega⟩ ⟨fun z => absurd z (by omega), fun z => absurd z (by omega), fun z => absurd z (by omega), fun _ => ⟨2 * d + t, sh pre w ms, rfl, rfl, by omega, ?_⟩, fun z => absurd z (by omega), fun z => absurd z (by omega)⟩)
    rw [show (2 * d + t) / 2 + 1 = d + 1 from by omega]
    exact it_S a cn3 hp up1_e (nO _ (by show tcN c ≤ tcN c + cs.length + 1; omega)) (by omega)) (by omega)
  refine ⟨up1 (mkc c C (tcN c + cs.length) D1) 1 (u, d + 1, sh pre w ms, R - (cs.length + 1)), ?_, fun q hq => ?_, ?_⟩
  · rw [← Nat.add_assoc]; exact t3
  · rw [up1_o (by show ¬ q = tcN c + cs.length + 1; omega)]; exact e1 q hq
  · rw [← Nat.add_assoc]; exact up1_e
end CUU
end JnS436
section JnS437
/-! The class: rows of iters within exps, typed. -/
section CUV
variable {c c' c1 c2 : Ct} {O O' H H' : Nat → Prop} {u nu nu' pc ln R R' p p' d rk k op w n m m' q t t' cnt : Nat} {r pre ms ms' xm : List Nat} {x v wd : Int32} {Vm Vm' : Nat → Prop} {cs ins o as : List Int32} {gl : Nat × (Nat → Nat → Prop)} {C : Nat → Int32} {y : Nat × Nat × List Nat × Nat} {nl : List (Nat × Nat × List Nat)}
theorem shRsh (d : Nat) (hp : ∀ e, e ∈ pre → e < bsl) (h : ∀ i, i ∈ ms' → i ∈ ms) : Rsh d (sh pre w ms) d (sh pre w ms') := ⟨fun K lo hi z => SL_sb (Q := fun i s => i ∈ s) (fun i s q _ => q) _ _ _ _ (sh_mrl pre hp h) z, fun K pb m z => PaM_mr (Q := fun i s => i ∈ s) (fun i s q _ => Or.inl ⟨q, rfl⟩) _ _ (sh_mrl pre hp h) z⟩
/-- marks of names: they hold values -/
def nmL (n : Nat) : Nat → List Nat
  | 0 => []
  | k + 1 => (bsl + 500000 + n + k) :: nmL n k
theorem nmL_m {n : Nat} : ∀ (k i : Nat), i ∈ nmL n k ↔ bsl + 500000 + n ≤ i ∧ i < bsl + 500000 + n + k
  | 0, i => ⟨fun h => absurd h List.not_mem_nil, fun h => absurd h.2 (by omega)⟩
  | k + 1, i => by
    show i ∈ (bsl + 500000 + n + k) :: nmL n k ↔ _
    rw [List.mem_cons, nmL_m k i]
    omega
/-- a NEXT and what lies behind it -/
def NxE (u N d : Nat) (pre : List Nat) (w : Nat) (ms : List Nat) (D : Nat → Option (Nat × Nat × List Nat × Nat)) (e : Nat × Nat × List Nat) : Prop := (∃ rk, D (N + e.1) = some (u, d, sh pre w ((bsl + e.2.1) :: (e.2.2 ++ ms)), rk)) ∧ D (N + e.1 + 1) = none ∧ ∃ rk, rk ≤ RK ∧ D (N + e.1 + 2) = some (u, d + 1, sh pre w ((bsl + e.2.1) :: (e.2.2 ++ ms)), rk)
/-- a row of NEXTs, the newest first: place, slot, marks before it -/
def RwL (p : Nat) (cs : List Int32) : List (Nat × Nat × List Nat) → Prop
  | [] => True
  | e :: nl => e.1 + 2 ≤ cs.length ∧ cs.getD e.1 0 = em 65 (nI e.2.1) ∧ (p ≤ e.2.1 ∧ e.2.1 + 1 < 180) ∧ (∀ i, i ∈ e.2.2 → bsl ≤ i ∧ (i - bsl) % 500000 < e.2.1) ∧ (∀ f, f ∈ nl → f.1 + 2 ≤ e.1) ∧ (∀ f nl', nl = f :: nl' → cs.getD (e.1 + 1) 0 = nI f.1 - nI e.1 ∧ ∀ i, i = bsl + f.2.1 ∨ i ∈ f.2.2 → i ∈ e.2.2) ∧ RwL p cs nl
theorem RwL_le : ∀ nl : List (Nat × Nat × List Nat), RwL p cs nl → ∀ e, e ∈ nl → e.1 + 2 ≤ cs.length
  | [], _, e, h => absurd h List.not_mem_nil
  | f :: nl, z, e, h => by
    rcases List.mem_cons.1 h with q | q
    · rw [q]; exact z.1
    · exact RwL_le nl z.2.2.2.2.2.2 e q
theorem RwL_ap : ∀ nl : List (Nat × Nat × List Nat), RwL p cs nl → RwL p (cs ++ o) nl
  | [], _ => trivial
  | e :: nl, z => by
    obtain ⟨z1, z2, z3, z4, z5, z6, z7⟩ := z
    refine ⟨by rw [List.length_append]; omega, by rw [gd_l (by omega)]; exact z2, z3, z4, z5, fun f nl' h => ?_, RwL_ap nl z7⟩
    rw [gd_l (by omega)]
    exact z6 f nl' h
def Row (u p : Nat) (gl : Nat × (Nat → Nat → Prop)) (Vm : Nat → Prop) (p' : Nat) (xm : List Nat) (nl : List (Nat × Nat × List Nat)) (cs : List Int32) : Prop := (p ≤ p' ∧ p' ≤ 180) ∧ (∀ i, i ∈ xm → bsl ≤ i ∧ (i - bsl) % 500000 < p') ∧ 2 * nl.length ≤ cs.length ∧ RwL p cs nl ∧ ∀ (O H : Nat → Prop) (nu R : Nat) (c : Ct) (d : Nat) (pre : List Nat) (w : Nat) (ms : List Nat) (C : Nat → Int32), TI O H nu R c → ¬ O (tcN c) → tcD c (tcN c) = some (u, d, sh pre w ms, R) → (∀ e, e ∈ pre → e < bsl) → CnC O u p gl Vm nu c w ms → 1000 + cs.length ≤ R → R ≤ RK → d + cs.length ≤ 100000 → tcN c + cs.length ≤ 36864 → (∀ i, i < tcN c → C i = tcC c i) → (∀ i, i < cs.length → (∀ e, e ∈ nl → ¬ i = e.1 + 1) → C (tcN c + i) = cs.getD i 0) → ∃ D, TI (fun q => O q ∨ ∃ e, e ∈ nl ∧ q = tcN c + e.1) (fun q => H q ∨ ∃ e, e ∈ nl ∧ q = tcN c + e.1) nu (R - cs.length + nl.length) (mkc c C (tcN c + cs.length) D) ∧ (∀ q, q ≤ tcN c → D q = tcD c q) ∧ D (tcN c + cs.length) = some (u, d, sh pre w (xm ++ ms), R - cs.length + nl.length) ∧ ∀ e, e ∈ nl → NxE u (tcN c) d pre w ms D e
theorem TI_oh (t : TI O H nu R c) (ho : ∀ q, O' q ↔ O q) (h : ∀ q, H' q ↔ H q) : TI O' H' nu R c := by
  have e1 : O' = O := funext (fun q => propext (ho q))
  have e2 : H' = H := funext (fun q => propext (h q))
  rw [e1, e2]; exact t
theorem Row_0 (hp : p ≤ 180) : Row u p gl Vm p [] [] [] := by
  refine ⟨⟨Nat.le_refl _, hp⟩, fun i h => absurd h List.not_mem_nil, Nat.le_refl _, trivial, fun O H nu R c d pre w ms C ti no hD hp cn hR1 hR2 hd hN hC1 hC2 => ?_⟩
  obtain ⟨D, a1, a2, a3⟩ := (Sgm_nil u p gl Vm).2 O H nu R c d pre w ms C ti no hD hp cn hR1 hR2 hd hN hC1 (fun i hi => hC2 i hi (fun e h => absurd h List.not_mem_nil))
  exact ⟨D, TI_oh a1 (fun q => ⟨fun z => z.elim id (fun ⟨e, h, _⟩ => absurd h List.not_mem_nil), Or.inl⟩) (fun q => ⟨fun z => z.elim id (fun ⟨e, h, _⟩ => absurd h List.not_mem_nil), Or.inl⟩), a2, a3, fun e h => absurd h List.not_mem_nil⟩
/-- the names take what is before them: NAME or NAMES -/
def Nms (n cnt : Nat) (ins : List Int32) : Prop := 1 ≤ cnt ∧ ((cnt = 1 ∧ ins = [em 66 (nI n)]) ∨ ins = [em 67 (nI n), nI cnt])
theorem Nms_l (h : Nms n cnt ins) : 1 ≤ ins.length ∧ ins.length ≤ 2 := by
  rcases h.2 with ⟨_, e⟩ | e
  · rw [e]; exact ⟨Nat.le_refl _, by show 1 ≤ 2; decide⟩
  · rw [e]; exact ⟨by show 1 ≤ 2; decide, Nat.le_refl _⟩
theorem Row_ad (h : Row u p gl Vm p' xm nl cs) (hV : ∀ i, Vm' i → Vm i ∨ i ∈ xm) (g : Sgm u (p' + cnt) gl Vm' 1 o) (hq : p' + cnt + 2 ≤ 180) (hn : Nms p' cnt ins) (hw : ∀ f nl', nl = f :: nl' → wd = nI f.1 - nI (cs.length + o.length + 1) ∧ ∀ i, i = bsl + f.2.1 ∨ i ∈ f.2.2 → i ∈ xm) : Row u p gl Vm (p' + cnt + 2) (nmL p' cnt ++ (bsl + (p' + cnt)) :: xm) ((cs.length + o.length + 1, p' + cnt, xm) :: nl) (cs ++ (o ++ (em 64 (nI (p' + cnt)) :: em 65 (nI (p' + cnt)) :: wd :: ins))) := by
  obtain ⟨⟨p1, p2⟩, x1, l1, rl, h1⟩ := h
  obtain ⟨g1, g2⟩ := g
  obtain ⟨i1, i2⟩ := Nms_l hn
  have bs : bsl = 1000000 := rfl
  have rk40 : RK = 40000 := rfl
  have el : (cs ++ (o ++ (em 64 (nI (p' + cnt)) :: em 65 (nI (p' + cnt)) :: wd :: ins))).length = cs.length + (o.length + (ins.length + 3)) := by
    rw [List.length_append, List.length_append]; rfl
  have hc1 := hn.1
  refine ⟨⟨by omega, hq⟩, fun i hi => ?_, ?_, ?_, fun O H nu R c d pre w ms C ti no hD hp cn hR1 hR2 hd hN hC1 hC2 => ?_⟩
  · rcases List.mem_append.1 hi with z | z
    · rw [nmL_m] at z; omega
    · rcases List.mem_cons.1 z with y | y
      · rw [y]; omega
      · have := x1 i y; omega
  · rw [el]; show 2 * (nl.length + 1) ≤ _; omega
  · refine ⟨by rw [el]; show cs.length + o.length + 1 + 2 ≤ _; omega, ?_, ⟨by show p ≤ p' + cnt; omega, by show p' + cnt + 1 < 180; omega⟩, fun i hi => ?_, fun f hf => ?_, fun f nl' e => ?_, RwL_ap nl rl⟩
    · show (cs ++ (o ++ (em 64 (nI (p' + cnt)) :: em 65 (nI (p' + cnt)) :: wd :: ins))).getD (cs.length + o.length + 1) 0 = _
      rw [Nat.add_assoc, gd_r, gd_r]; rfl
    · have := x1 i hi
      show bsl ≤ i ∧ (i - bsl) % 500000 < p' + cnt
      omega
    · have := RwL_le nl rl f hf
      show f.1 + 2 ≤ cs.length + o.length + 1
      omega
    · refine ⟨?_, (hw f nl' e).2⟩
      show (cs ++ (o ++ (em 64 (nI (p' + cnt)) :: em 65 (nI (p' + cnt)) :: wd :: ins))).getD (cs.length + o.length + 1 + 1) 0 = _
      rw [show cs.length + o.length + 1 + 1 = cs.length + (o.length + 2) from by omega, gd_r, gd_r]
      exact (hw f nl' e).1
  rw [el] at hR1 hd hN hC2 ⊢
  have nO := noO_ge ti no
  have ne : ∀ i, i < cs.length → (∀ e, e ∈ nl → ¬ i = e.1 + 1) → ∀ e, e ∈ ((cs.length + o.length + 1, p' + cnt, xm) :: nl) → ¬ i = e.1 + 1 := fun i hi z e he => by
    rcases List.mem_cons.1 he with y | y
    · rw [y]; show ¬ i = cs.length + o.length + 1 + 1; omega
    · exact z e y
  have nf : ∀ i, cs.length ≤ i → ¬ i = cs.length + o.length + 2 → ∀ e, e ∈ ((cs.length + o.length + 1, p' + cnt, xm) :: nl) → ¬ i = e.1 + 1 := fun i hi z e he => by
    rcases List.mem_cons.1 he with y | y
    · rw [y]; show ¬ i = cs.length + o.length + 1 + 1; omega
    · have := RwL_le nl rl e y; omega
  obtain ⟨D1, t1, e1, f1, k1⟩ := h1 O H nu R c d pre w ms C ti no hD hp cn (by omega) hR2 (by omega) (by omega) hC1 (fun i hi hh => by rw [hC2 i (by omega) (ne i hi hh), gd_l hi])
  have nO1 : ∀ q, tcN c + cs.length ≤ q → ¬ (O q ∨ ∃ e, e ∈ nl ∧ q = tcN c + e.1) := fun q hq z => by
    rcases z with z | ⟨e, he, z⟩
    · exact nO q (by omega) z
    · have := RwL_le nl rl e he; omega
  have dU1 : ∀ q y', tcD c q = some y' → D1 q = some y' := dd_of ti e1
  have cn1 : CnC (fun q => O q ∨ ∃ e, e ∈ nl ∧ q = tcN c + e.1) u (p' + cnt) gl Vm' nu (mkc c C (tcN c + cs.length) D1) w (xm ++ ms) := by
    obtain ⟨a1, a2, a3, a4, a5, a6, a7, a8⟩ := CnC_k (C := C) (N := tcN c + cs.length) cn dU1
    refine ⟨a1, a2, a3, a4, by omega, fun i hi hb => ?_, fun i hi => ?_, ?_⟩
    · rcases List.mem_append.1 hi with z | z
      · have := x1 i z; omega
      · have := a6 i z hb; omega
    · rcases hV i hi with z | z
      · exact List.mem_append_right _ (a7 i z)
      · exact List.mem_append_left _ z
    · intro v v1 v2 kv
      obtain ⟨b1, b2, b3, b4, rk, b5, b6⟩ := a8 v v1 v2 kv
      refine ⟨b1, b2, b3, fun z => ?_, rk, b5, b6⟩
      rcases z with z | ⟨e, he, z⟩
      · exact b4 z
      · obtain ⟨_, _, _, _, rk', _, g6⟩ := cn.2.2.2.2.2.2.2 v v1 v2 kv
        have g6' : tcD c (tcE c v) = some (v, 0, (bsl + tcF c v) :: Vl (tcF c v), rk') := g6
        have z' : tcE c v = tcN c + e.1 := z
        rcases Nat.lt_or_ge (tcN c) (tcE c v) with y | y
        · rw [ti.2.2.2.1 _ y] at g6'; cases g6'
        · have e0 : e.1 = 0 := by omega
          obtain ⟨⟨rk2, k2⟩, _⟩ := k1 e he
          rw [e0] at k2
          have k3 : D1 (tcN c) = _ := k2
          rw [e1 _ (Nat.le_refl _), hD] at k3
          have k4 := congrArg (fun s => match s with | some s => s.2.2.1 | none => []) k3
          have k5 : sh pre w ms = sh pre w ((bsl + e.2.1) :: (e.2.2 ++ ms)) := k4
          have k6 := congrArg List.length k5
          rw [List.length_append, List.length_append, List.length_cons, List.length_cons, List.length_cons, List.length_append] at k6
          omega
  obtain ⟨D2, t2, e2, f2⟩ := g2 (fun q => O q ∨ ∃ e, e ∈ nl ∧ q = tcN c + e.1) (fun q => H q ∨ ∃ e, e ∈ nl ∧ q = tcN c + e.1) nu (R - cs.length + nl.length) (mkc c C (tcN c + cs.length) D1) d pre w (xm ++ ms) C t1 (nO1 _ (Nat.le_refl _)) f1 hp cn1 (by omega) (by omega) (by omega) (by show tcN c + cs.length + o.length ≤ _; omega) (fun _ _ => rfl) (fun i hi => by
    show C (tcN c + cs.length + i) = _
    rw [Nat.add_assoc, hC2 _ (by omega) (nf _ (by omega) (by omega)), gd_r, gd_l hi])
  have t2' : TI (fun q => O q ∨ ∃ e, e ∈ nl ∧ q = tcN c + e.1) (fun q => H q ∨ ∃ e, e ∈ nl ∧ q = tcN c + e.1) nu (R - cs.length + nl.length - o.length) (mkc c C (tcN c + cs.length + o.length) D2) := t2
  have f2' : D2 (tcN c + cs.length + o.length) = some (u, d + 1, sh pre w (xm ++ ms), R - cs.length + nl.length - o.length) := f2
  have dU2 : ∀ q y', D1 q = some y' → D2 q = some y' := fun q y' e => dd_of t1 e2 q y' e
  have cI : C (tcN c + cs.length + o.length) = em 64 (nI (p' + cnt)) := by
    have z := hC2 (cs.length + (o.length + 0)) (by omega) (nf _ (by omega) (by omega))
    rw [gd_r, gd_r] at z
    rw [Nat.add_assoc]; exact z
  have cJ : ∀ i, i < ins.length → C (tcN c + cs.length + o.length + 1 + 2 + i) = ins.getD i 0 := fun i hi => by
    have z := hC2 (cs.length + (o.length + (i + 3))) (by omega) (nf _ (by omega) (by omega))
    rw [gd_r, gd_r] at z
    rw [show tcN c + cs.length + o.length + 1 + 2 + i = tcN c + (cs.length + (o.length + (i + 3))) from by omega, z]
    rfl
  generalize hs : tcN c + cs.length + o.length = s at *
  generalize hR' : R - cs.length + nl.length - o.length = Q at *
  have Q1 : 1000 + (ins.length + 3) ≤ Q := by omega
  have Q2 : Q ≤ RK := by omega
  let mS : List Nat := (bsl + (p' + cnt)) :: (xm ++ ms)
  let mT : List Nat := nmL p' cnt ++ mS
  let O2 : Nat → Prop := fun q => (O q ∨ ∃ e, e ∈ nl ∧ q = tcN c + e.1) ∨ (q = s + 1 ∧ True)
  let H2 : Nat → Prop := fun q => (H q ∨ ∃ e, e ∈ nl ∧ q = tcN c + e.1) ∨ (q = s + 1 ∧ True)
  let D3 : Nat → Option (Nat × Nat × List Nat × Nat) := fun q => if q = s + 1 then some (u, d, sh pre w mS, 0) else D2 q
  let D4 : Nat → Option (Nat × Nat × List Nat × Nat) := fun q => if q = s + 1 + 2 then some (u, d + 1, sh pre w mS, Q - 2) else D3 q
  let D5 : Nat → Option (Nat × Nat × List Nat × Nat) := fun q => if q = s + 1 + 2 + ins.length then some (u, d, sh pre w mT, Q - 2 - ins.length) else D4 q
  have nb2 : ∀ q, s < q → D2 q = none := fun q hq => t2'.2.2.2.1 q hq
  have d23 : ∀ q y', D2 q = some y' → D3 q = some y' := fun q y' e => by
    show (if q = s + 1 then _ else D2 q) = _
    rw [if_neg (fun z => by rw [z, nb2 _ (by omega)] at e; cases e)]; exact e
  have d34 : ∀ q y', D3 q = some y' → D4 q = some y' := fun q y' e => by
    show (if q = s + 1 + 2 then _ else D3 q) = _
    rw [if_neg (fun z => by
      rw [z] at e
      have e' : (if s + 1 + 2 = s + 1 then some (u, d, sh pre w mS, 0) else D2 (s + 1 + 2)) = some y' := e
      rw [if_neg (by omega), nb2 _ (by omega)] at e'; cases e')]; exact e
  have d45 : ∀ q y', D4 q = some y' → D5 q = some y' := fun q y' e => by
    show (if q = s + 1 + 2 + ins.length then _ else D4 q) = _
    rw [if_neg (fun z => by
      rw [z] at e
      have e' : (if s + 1 + 2 + ins.length = s + 1 + 2 then some (u, d + 1, sh pre w mS, Q - 2) else if s + 1 + 2 + ins.length = s + 1 then some (u, d, sh pre w mS, 0) else D2 (s + 1 + 2 + ins.length)) = some y' := e
      rw [if_neg (by omega), if_neg (by omega), nb2 _ (by omega)] at e'; cases e')]; exact e
  have d3e : D3 (s + 1) = some (u, d, sh pre w mS, 0) := if_pos rfl
  have d4e : D4 (s + 1 + 2) = some (u, d + 1, sh pre w mS, Q - 2) := if_pos rfl
  have d5e : D5 (s + 1 + 2 + ins.length) = some (u, d, sh pre w mT, Q - 2 - ins.length) := if_pos rfl
  have cnF : tcF c u ≤ w := cn.2.2.1
  have hu := cn.1
  have btw : ∀ (X : List Nat) (d' : Nat), tcF c u ≤ bt d' (sh pre w X) := fun X d' => by rw [sh_bt pre _ hp]; exact cnF
  have all6 : ∀ i, i ∈ xm ++ ms → bsl ≤ i → (i - bsl) % 500000 < p' + cnt := cn1.2.2.2.2.2.1
  -- ITER
  have t3 : TI O2 (fun q => H q ∨ ∃ e, e ∈ nl ∧ q = tcN c + e.1) nu Q (mkc c C (s + 1) D3) := by
    refine TI_em (ln := 1) (y := some (u, d, sh pre w mS, 0)) (Hn := False) (On := True) t2' (Nat.le_refl _) (by show s + 1 ≤ _; omega) (fun _ _ => rfl) rfl ⟨⟨rfl, rfl⟩, rfl, rfl⟩ (fun q => rfl) (fun q => Iff.rfl) (fun _ => rfl) (fun q => ⟨Or.inl, fun z => z.elim id (fun w => w.2.elim)⟩) (fun o => nO1 _ (by show tcN c + cs.length ≤ s; omega) o) (fun _ y ey => ?_) (Nat.le_refl _)
    have ey' : D2 s = some y := ey
    rw [f2'] at ey'
    cases ey'
    have noS : ¬ O2 s := fun z => by
      rcases z with z | z
      · exact nO1 _ (by omega) z
      · omega
    refine OKq_of (O := O2) (op := 64) (x := nI (p' + cnt)) (d23 _ _ f2') noS cn.2.1 (Nat.le_refl _) (by omega) (by decide) (Nat.le_refl _) (by show C s &&& 255 = _; rw [cI]; exact em_lo (by decide)) (by show C s >>> ((8 : Int32) &&& 31) = _; rw [cI]; exact em_hi (by decide) (Sm3_n (by omega))) (fun c' a hc ro => OKI_4 (by decide) ⟨by decide, by rw [u_n (by omega)]; omega, ?_⟩)
    rw [u_n (by omega)]
    have tf := tF_of a hu
    exact ⟨fun _ => ⟨d, sh pre w mS, rfl, by rw [tf]; exact btw _ _, by omega, sh_mrl pre hp (fun i hi => (List.mem_cons.1 hi).elim Or.inl Or.inr), shAll pre hp (fun i hi hb => by
      rcases List.mem_cons.1 hi with z | z
      · rw [z]; omega
      · have := all6 i z hb; omega), nxO_of a hu ro d3e (Or.inr ⟨rfl, trivial⟩) (Rsh_r _ _) (btw _ _) (btw _ _) (Nat.le_refl _)⟩, fun z => absurd z (by decide), fun z => absurd z (by decide), fun z => absurd z (by decide), fun z => absurd z (by decide), fun z => absurd z (by decide), fun z => absurd z (by decide), fun z => absurd z (by decide), fun z => absurd z (by decide), fun z => absurd z (by decide), fun z => absurd z (by decide)⟩
  -- NEXT, its end still to be told
  have t4 : TI O2 H2 nu (Q - 2) (mkc c C (s + 1 + 2) D4) := TI_em (ln := 2) (y := some (u, d + 1, sh pre w mS, Q - 2)) (Hn := True) (On := False) t3 (by decide) (by show s + 1 + 2 ≤ _; omega) (fun _ _ => rfl) rfl ⟨⟨rfl, rfl⟩, rfl, rfl⟩ (fun q => rfl) (fun q => ⟨Or.inl, fun z => z.elim id (fun w => w.2.elim)⟩) (fun z => z.elim) (fun q => Iff.rfl) (fun _ => trivial) (fun z => absurd trivial z) (by omega)
  have noT : ∀ q, s + 1 < q → ¬ O2 q := fun q hq z => by
    rcases z with z | z
    · exact nO1 _ (by omega) z
    · omega
  -- NAME, NAMES
  have t5 : TI O2 H2 nu (Q - 2 - ins.length) (mkc c C (s + 1 + 2 + ins.length) D5) := by
    refine TI_em (ln := ins.length) (y := some (u, d, sh pre w mT, Q - 2 - ins.length)) (Hn := False) (On := False) t4 i1 (by show s + 1 + 2 + ins.length ≤ _; omega) (fun _ _ => rfl) rfl ⟨⟨rfl, rfl⟩, rfl, rfl⟩ (fun q => rfl) (fun q => ⟨Or.inl, fun z => z.elim id (fun w => w.2.elim)⟩) (fun z => z.elim) (fun q => ⟨Or.inl, fun z => z.elim id (fun w => w.2.elim)⟩) (fun o => noT _ (by show s + 1 < s + 1 + 2; omega) o) (fun _ y ey => ?_) (by omega)
    have ey' : D4 (s + 1 + 2) = some y := ey
    rw [d4e] at ey'
    cases ey'
    have cJ0 : C (s + 1 + 2) = ins.getD 0 0 := cJ 0 (by omega)
    have nxN : ∀ c' : Ct, CtG O2 u nu (mkc c C (s + 1 + 2 + ins.length) D5) c' → Nx c' (s + 1 + 2 + ins.length) u d (sh pre w mT) (Q - 2) := fun c' a => nx_of a hu d5e (noT _ (by omega)) (Rsh_r _ _) (btw _ _) (btw _ _) (by omega)
    have r1 : Mrl (fun i s => i ∈ s) (sh pre w mS) (sh pre w mS) := sh_mrl pre hp (fun i hi => hi)
    have noM : ∀ i, i ∈ mS → ¬ (bsl + p' ≤ i ∧ i < bsl + p' + cnt) := fun i hi z => by
      rcases List.mem_cons.1 hi with y | y
      · omega
      · rcases List.mem_append.1 y with y | y
        · have := x1 i y; omega
        · have := cn.2.2.2.2.2.1 i y (by omega); omega
    rcases hn.2 with ⟨n1, n2⟩ | n2
    · subst n2
      have cJ1 : C (s + 1 + 2) = em 66 (nI p') := cJ0
      refine OKq_of (O := O2) (op := 66) (x := nI p') (d45 _ _ d4e) (noT _ (by show s + 1 < s + 1 + 2; omega)) cn.2.1 (Nat.le_refl _) (by omega) (by decide) (Nat.le_refl _) (by show C (s + 1 + 2) &&& 255 = _; rw [cJ1]; exact em_lo (by decide)) (by show C (s + 1 + 2) >>> ((8 : Int32) &&& 31) = _; rw [cJ1]; exact em_hi (by decide) (Sm3_n (by omega))) (fun c' a hc ro => OKI_4 (by decide) ⟨by decide, by rw [u_n (by omega)]; omega, ?_⟩)
      rw [u_n (by omega)]
      have tf := tF_of a hu
      exact ⟨fun z => absurd z (by decide), fun z => absurd z (by decide), fun _ => ⟨d, sh pre w mS, sh pre w mT, rfl, by rw [tf]; exact btw _ _, by omega, r1, shAll pre hp (fun i hi z => noM i hi (by omega)), sh_mrl pre hp (fun i hi => (List.mem_append.1 hi).elim (fun z => Or.inr (by rw [nmL_m] at z; omega)) Or.inl), nxN c' a⟩, fun z => absurd z (by decide), fun z => absurd z (by decide), fun z => absurd z (by decide), fun z => absurd z (by decide), fun z => absurd z (by decide), fun z => absurd z (by decide), fun z => absurd z (by decide), fun z => absurd z (by decide)⟩
    · subst n2
      have cJ1 : C (s + 1 + 2) = em 67 (nI p') := cJ0
      have cJ2 : C (s + 1 + 2 + 1) = nI cnt := cJ 1 (by show 1 < 2; decide)
      refine OKq_of (O := O2) (op := 67) (x := nI p') (d45 _ _ d4e) (noT _ (by show s + 1 < s + 1 + 2; omega)) cn.2.1 (by show s + 1 + 2 + 1 ≤ s + 1 + 2 + 2; omega) (by omega) (by decide) (by show 1 ≤ 2; decide) (by show C (s + 1 + 2) &&& 255 = _; rw [cJ1]; exact em_lo (by decide)) (by show C (s + 1 + 2) >>> ((8 : Int32) &&& 31) = _; rw [cJ1]; exact em_hi (by decide) (Sm3_n (by omega))) (fun c' a hc ro => OKI_4 (by decide) ⟨by decide, by rw [u_n (by omega)]; omega, ?_⟩)
      rw [u_n (by omega)]
      have tf := tF_of a hu
      have cw : uN (tcC c' (s + 1 + 2 + 1)) = cnt := by
        rw [(hc (s + 1 + 2 + 1) (by show s + 1 + 2 ≤ _; omega) (by show s + 1 + 2 + 1 < s + 1 + 2 + 2; omega)).trans cJ2, u_n (by omega)]
      have n9 : s + 1 + 2 + 2 ≤ tcN c' := a.1
      exact ⟨fun z => absurd z (by decide), fun z => absurd z (by decide), fun z => absurd z (by decide), fun _ => ⟨d, sh pre w mS, sh pre w mT, rfl, by rw [tf]; exact btw _ _, by show s + 1 + 2 + 1 < tcN c'; omega, by show p' + uN (tcC c' (s + 1 + 2 + 1)) ≤ 180; rw [cw]; omega, r1, shAll pre hp (fun i hi => by show ¬ (bsl + p' ≤ i ∧ i < bsl + p' + uN (tcC c' (s + 1 + 2 + 1))); rw [cw]; exact noM i hi), sh_mrl pre hp (fun i hi => (List.mem_append.1 hi).elim (fun z => Or.inr (by show bsl + 500000 + p' ≤ i ∧ i < bsl + 500000 + p' + uN (tcC c' (s + 1 + 2 + 1)); rw [cw, ← nmL_m]; exact z) ) Or.inl), nxN c' a⟩, fun z => absurd z (by decide), fun z => absurd z (by decide), fun z => absurd z (by decide), fun z => absurd z (by decide), fun z => absurd z (by decide), fun z => absurd z (by decide), fun z => absurd z (by decide)⟩
  have low : ∀ q y', D2 q = some y' → D5 q = some y' := fun q y' e => d45 _ _ (d34 _ _ (d23 _ _ e))
  have lowE : ∀ q, q ≤ s → D5 q = D2 q := fun q hq => by
    show (if q = s + 1 + 2 + ins.length then _ else if q = s + 1 + 2 then _ else if q = s + 1 then _ else D2 q) = _
    rw [if_neg (by omega), if_neg (by omega), if_neg (by omega)]
  have sN' : tcN c + (cs.length + o.length + 1) = s + 1 := by omega
  refine ⟨D5, ?_, fun q hq => ?_, ?_, fun e he => ?_⟩
  · have r1 : R - (cs.length + (o.length + (ins.length + 3))) + ((cs.length + o.length + 1, p' + cnt, xm) :: nl).length = Q - 2 - ins.length := by
      show R - (cs.length + (o.length + (ins.length + 3))) + (nl.length + 1) = _
      omega
    rw [r1, show tcN c + (cs.length + (o.length + (ins.length + 3))) = s + 1 + 2 + ins.length from by omega]
    refine TI_oh t5 (fun q => ?_) (fun q => ?_)
    · constructor
      · rintro (z | ⟨e, he, z⟩)
        · exact Or.inl (Or.inl z)
        · rcases List.mem_cons.1 he with y | y
          · rw [y] at z; exact Or.inr ⟨z.trans sN', trivial⟩
          · exact Or.inl (Or.inr ⟨e, y, z⟩)
      · rintro ((z | ⟨e, he, z⟩) | ⟨z, _⟩)
        · exact Or.inl z
        · exact Or.inr ⟨e, List.mem_cons_of_mem _ he, z⟩
        · exact Or.inr ⟨_, List.mem_cons_self, z.trans sN'.symm⟩
    · constructor
      · rintro (z | ⟨e, he, z⟩)
        · exact Or.inl (Or.inl z)
        · rcases List.mem_cons.1 he with y | y
          · rw [y] at z; exact Or.inr ⟨z.trans sN', trivial⟩
          · exact Or.inl (Or.inr ⟨e, y, z⟩)
      · rintro ((z | ⟨e, he, z⟩) | ⟨z, _⟩)
        · exact Or.inl z
        · exact Or.inr ⟨e, List.mem_cons_of_mem _ he, z⟩
        · exact Or.inr ⟨_, List.mem_cons_self, z.trans sN'.symm⟩
  · rw [lowE q (by omega), e2 q (by show q ≤ tcN c + cs.length; omega)]
    exact e1 q hq
  · have r1 : R - (cs.length + (o.length + (ins.length + 3))) + ((cs.length + o.length + 1, p' + cnt, xm) :: nl).length = Q - 2 - ins.length := by
      show R - (cs.length + (o.length + (ins.length + 3))) + (nl.length + 1) = _
      omega
    rw [r1, show tcN c + (cs.length + (o.length + (ins.length + 3))) = s + 1 + 2 + ins.length from by omega, d5e]
    show some (u, d, sh pre w (nmL p' cnt ++ ((bsl + (p' + cnt)) :: (xm ++ ms))), _) = some (u, d, sh pre w ((nmL p' cnt ++ (bsl + (p' + cnt)) :: xm) ++ ms), _)
    rw [List.append_assoc, List.cons_append]
  · rcases List.mem_cons.1 he with y | y
    · rw [y]
      refine ⟨⟨0, ?_⟩, ?_, Q - 2, by omega, ?_⟩
      · show D5 (tcN c + (cs.length + o.length + 1)) = _
        rw [sN']
        exact d45 _ _ (d34 _ _ d3e)
      · show D5 (tcN c + (cs.length + o.length + 1) + 1) = none
        rw [sN']
        show (if s + 1 + 1 = s + 1 + 2 + ins.length then _ else if s + 1 + 1 = s + 1 + 2 then _ else if s + 1 + 1 = s + 1 then _ else D2 (s + 1 + 1)) = none
        rw [if_neg (by omega), if_neg (by omega), if_neg (by omega)]
        exact nb2 _ (by omega)
      · show D5 (tcN c + (cs.length + o.length + 1) + 2) = _
        rw [sN']
        exact d45 _ _ d4e
    · have le := RwL_le nl rl e y
      obtain ⟨⟨ra, a1⟩, a2, rb, a3, a4⟩ := k1 e y
      refine ⟨⟨ra, low _ _ (dU2 _ _ a1)⟩, ?_, rb, a3, low _ _ (dU2 _ _ a4)⟩
      rw [lowE _ (by omega), e2 _ (by show _ ≤ tcN c + cs.length; omega)]
      exact a2
end CUV
end JnS437
section JnS438
/-! The class: rows of iters with what they do; their NEXTs are told where they end. -/
section CUW
variable {c c' c1 c2 : Ct} {O O' H H' : Nat → Prop} {u nu nu' pc ln R R' p p' d rk k op w n m m' q t t' cnt : Nat} {r pre ms ms' xm : List Nat} {x v wd : Int32} {Vm Vm' : Nat → Prop} {cs ins o as : List Int32} {gl : Nat × (Nat → Nat → Prop)} {C : Nat → Int32} {y : Nat × Nat × List Nat × Nat} {nl : List (Nat × Nat × List Nat)}
theorem TI_R (t : TI O H nu R c) (h : R' ≤ R) : TI O H nu R' c := by
  obtain ⟨t1, t2, th, t3, t4⟩ := t
  refine ⟨t1, t2, th, t3, fun pc x e hp => ?_⟩
  rcases t4 pc x e hp with z | ⟨l, Rp, z1, z2, z3, z4⟩
  · exact Or.inl z
  · exact Or.inr ⟨l, Rp, z1, z2, by omega, z4⟩
/-- the NEXTs of a row, all typed: X is where it ends -/
theorem Cls {N X rkE : Nat} (hp : ∀ e, e ∈ pre → e < bsl) (hu : u ≤ nu ∨ u = 41) (u42 : u < 42) (hx : N + X ≤ 36864) : ∀ (nl : List (Nat × Nat × List Nat)) (O H : Nat → Prop) (c : Ct), tcF c u ≤ w → (∀ i, i ∈ ms → bsl ≤ i → (i - bsl) % 500000 < p) → RwL p cs nl → (∀ e, e ∈ nl → tcC c (N + e.1) = em 65 (nI e.2.1)) → (∀ e nl', nl = e :: nl' → ∀ f nl2, nl' = f :: nl2 → True) → (∀ i e, i < nl.length → nl.getD i (0, 0, []) = e → tcC c (N + e.1 + 1) = (if i + 1 < nl.length then nI (nl.getD (i + 1) (0, 0, [])).1 - nI e.1 else nI (X - e.1))) → (∀ e, e ∈ nl → e.1 + 2 ≤ X) → N + X ≤ tcN c → TI (fun q => O q ∨ ∃ e, e ∈ nl ∧ q = N + e.1) (fun q => H q ∨ ∃ e, e ∈ nl ∧ q = N + e.1) nu R c → (∀ q, N ≤ q → ¬ O q ∨ ∀ e, e ∈ nl → ¬ q = N + e.1 ∧ ¬ q = N + X ∧ ¬ q = N + e.1 + 2) → (∀ e, e ∈ nl → ¬ H (N + e.1) ∧ ¬ H (N + e.1 + 1)) → (∀ e, e ∈ nl → ¬ O (N + e.1) ∧ ¬ O (N + e.1 + 2)) → ¬ O (N + X) → tcD c (N + X) = some (u, d, sh pre w ms, rkE) → (∀ e, e ∈ nl → NxE u N d pre w ms (tcD c) e) → rkE + nl.length < R → R ≤ RK → ∃ D, TI O H nu R (mkc c (tcC c) (tcN c) D) ∧ (∀ q, (∀ e, e ∈ nl → ¬ q = N + e.1) → D q = tcD c q) ∧ ∀ e nl', nl = e :: nl' → D (N + e.1) = some (u, d, sh pre w ((bsl + e.2.1) :: (e.2.2 ++ ms)), rkE + nl.length) := by
  intro nl
  induction nl with
  | nil =>
    intro O H c hF hms hrl hcd _ hwd hX hN ti _ hH hO2 hOX hDX hNx hr hR
    refine ⟨tcD c, ?_, fun _ _ => rfl, fun e nl' h => by cases h⟩
    exact TI_oh ti (fun q => ⟨Or.inl, fun z => z.elim id (fun ⟨e, h, _⟩ => absurd h List.not_mem_nil)⟩) (fun q => ⟨Or.inl, fun z => z.elim id (fun ⟨e, h, _⟩ => absurd h List.not_mem_nil)⟩)
  | cons e0 nl ih =>
    intro O H c hF hms hrl hcd _ hwd hX hN ti _ hH hO2 hOX hDX hNx hr hR
    obtain ⟨z1, z2, ⟨z3, z3'⟩, z4, z5, z6, z7⟩ := hrl
    have bs : bsl = 1000000 := rfl
    have rk40 : RK = 40000 := rfl
    have x0 := hX e0 List.mem_cons_self
    have lt5 : ∀ e, e ∈ nl → e.1 + 2 ≤ e0.1 := z5
    obtain ⟨⟨ra, a1⟩, a2, rb, a3, a4⟩ := hNx e0 List.mem_cons_self
    have rr : rkE + nl.length + 1 < R := by
      have : rkE + (nl.length + 1) < R := hr
      omega
    obtain ⟨D1, t1, e1, f1⟩ := ih (fun q => O q ∨ q = N + e0.1) (fun q => H q ∨ q = N + e0.1) c hF hms z7 (fun e he => hcd e (List.mem_cons_of_mem _ he)) (fun _ _ _ _ _ _ => trivial) (fun i e hi he => by
      have z := hwd (i + 1) e (by show i + 1 < nl.length + 1; omega) he
      rw [z]
      by_cases q : i + 1 < nl.length
      · rw [if_pos q, if_pos (by show i + 1 + 1 < nl.length + 1; omega)]; rfl
      · rw [if_neg q, if_neg (by show ¬ i + 1 + 1 < nl.length + 1; omega)]) (fun e he => hX e (List.mem_cons_of_mem _ he)) hN (TI_oh ti (fun q => by
      constructor
      · rintro ((z | z) | ⟨e, he, z⟩)
        · exact Or.inl z
        · exact Or.inr ⟨e0, List.mem_cons_self, z⟩
        · exact Or.inr ⟨e, List.mem_cons_of_mem _ he, z⟩
      · rintro (z | ⟨e, he, z⟩)
        · exact Or.inl (Or.inl z)
        · rcases List.mem_cons.1 he with y | y
          · rw [y] at z; exact Or.inl (Or.inr z)
          · exact Or.inr ⟨e, y, z⟩) (fun q => by
      constructor
      · rintro ((z | z) | ⟨e, he, z⟩)
        · exact Or.inl z
        · exact Or.inr ⟨e0, List.mem_cons_self, z⟩
        · exact Or.inr ⟨e, List.mem_cons_of_mem _ he, z⟩
      · rintro (z | ⟨e, he, z⟩)
        · exact Or.inl (Or.inl z)
        · rcases List.mem_cons.1 he with y | y
          · rw [y] at z; exact Or.inl (Or.inr z)
          · exact Or.inr ⟨e, y, z⟩)) (fun q hq => by
      by_cases o : O q
      · right
        intro e he
        have h1 := hO2 e (List.mem_cons_of_mem _ he)
        exact ⟨fun z => h1.1 (z ▸ o), fun z => hOX (z ▸ o), fun z => h1.2 (z ▸ o)⟩
      · by_cases o2 : q = N + e0.1
        · right
          intro e he
          have h1 := lt5 e he
          refine ⟨by omega, by omega, fun z => ?_⟩
          have h2 := hNx e (List.mem_cons_of_mem _ he)
          obtain ⟨_, _, rb', _, h3⟩ := h2
          rw [← z, o2, a1] at h3
          have h4 := congrArg (fun s => match s with | some s => s.2.1 | none => 0) h3
          have h5 : d = d + 1 := h4
          omega
        · left
          exact fun z => z.elim o o2) (fun e he => by
      have h1 := hH e (List.mem_cons_of_mem _ he)
      have h2 := lt5 e he
      refine ⟨fun z => z.elim h1.1 (fun y => by omega), fun z => z.elim h1.2 (fun y => by omega)⟩) (fun e he => by
      have h1 := hO2 e (List.mem_cons_of_mem _ he)
      have h2 := lt5 e he
      refine ⟨fun z => z.elim h1.1 (fun y => by omega), fun z => z.elim h1.2 (fun y => ?_)⟩
      have h2 := hNx e (List.mem_cons_of_mem _ he)
      obtain ⟨_, _, rb', _, h3⟩ := h2
      rw [y, a1] at h3
      have h4 := congrArg (fun s => match s with | some s => s.2.1 | none => 0) h3
      have h5 : d = d + 1 := h4
      omega) (fun z => z.elim hOX (fun y => by omega)) hDX (fun e he => hNx e (List.mem_cons_of_mem _ he)) (by omega) hR
    have ne0 : ∀ e, e ∈ nl → ¬ N + e0.1 = N + e.1 := fun e he => by have := lt5 e he; omega
    have g0 : D1 (N + e0.1) = some (u, d, sh pre w ((bsl + e0.2.1) :: (e0.2.2 ++ ms)), ra) := (e1 _ ne0).trans a1
    have g1 : D1 (N + e0.1 + 1) = none := by
      rw [e1 _ (fun e he => by have := lt5 e he; omega)]; exact a2
    have g2 : D1 (N + e0.1 + 2) = some (u, d + 1, sh pre w ((bsl + e0.2.1) :: (e0.2.2 ++ ms)), rb) := by
      rw [e1 _ (fun e he => by have := lt5 e he; omega)]; exact a4
    have gX : D1 (N + X) = some (u, d, sh pre w ms, rkE) := by
      rw [e1 _ (fun e he => by have := hX e (List.mem_cons_of_mem _ he); omega)]; exact hDX
    let D2 : Nat → Option (Nat × Nat × List Nat × Nat) := fun q => if q = N + e0.1 then some (u, d, sh pre w ((bsl + e0.2.1) :: (e0.2.2 ++ ms)), rkE + nl.length + 1) else D1 q
    have d2e : D2 (N + e0.1) = some (u, d, sh pre w ((bsl + e0.2.1) :: (e0.2.2 ++ ms)), rkE + nl.length + 1) := if_pos rfl
    have d2o : ∀ q, ¬ q = N + e0.1 → D2 q = D1 q := fun q hq => if_neg hq
    have noO : ¬ O (N + e0.1) := (hO2 e0 List.mem_cons_self).1
    have t2 : TI O (fun q => H q ∨ q = N + e0.1) nu R (mkc c (tcC c) (tcN c) D2) := TI_cl (p0 := N + e0.1) (rk' := rkE + nl.length + 1) t1 (Or.inr rfl) g0 (by show N + e0.1 < tcN c; omega) rr rfl rfl ⟨⟨rfl, rfl⟩, rfl, rfl⟩ (fun q => rfl) (fun q => ⟨fun o => ⟨Or.inl o, fun z => noO (z ▸ o)⟩, fun z => z.1.elim id (fun y => absurd y z.2)⟩)
    have nxt : ∀ c' : Ct, CtG O u nu (mkc c (tcC c) (tcN c) D2) c' → ∃ r', Mrl (fun i s => i ∈ s) r' (sh pre w ((bsl + e0.2.1) :: (e0.2.2 ++ ms))) ∧ Nx c' (uN (nI (N + e0.1) + tcC c (N + e0.1 + 1))) u d r' (rkE + nl.length + 1) := by
      intro c' a
      have w0 := hwd 0 e0 (by show 0 < nl.length + 1; omega) rfl
      cases nl with
      | nil =>
        have w1 : tcC c (N + e0.1 + 1) = nI (X - e0.1) := w0
        refine ⟨sh pre w ms, sh_mrl pre hp (fun i hi => List.mem_cons_of_mem _ (List.mem_append_right _ hi)), ?_⟩
        rw [w1, u_add (by rw [u_n (by omega), u_n (by omega)]; omega), u_n (by omega), u_n (by omega), show N + e0.1 + (X - e0.1) = N + X from by omega]
        have gX' : D2 (N + X) = some (u, d, sh pre w ms, rkE) := (d2o _ (by omega)).trans gX
        exact nx_of a hu gX' hOX (Rsh_r _ _) (by rw [sh_bt pre _ hp]; exact hF) (by rw [sh_bt pre _ hp]; exact hF) (by show rkE < rkE + 0 + 1; omega)
      | cons f nl2 =>
        have w1 : tcC c (N + e0.1 + 1) = nI f.1 - nI e0.1 := w0
        have h5 := lt5 f List.mem_cons_self
        have sub := (z6 f nl2 rfl).2
        have gf : D1 (N + f.1) = some (u, d, sh pre w ((bsl + f.2.1) :: (f.2.2 ++ ms)), rkE + (f :: nl2).length) := f1 f nl2 rfl
        refine ⟨sh pre w ((bsl + f.2.1) :: (f.2.2 ++ ms)), sh_mrl pre hp (fun i hi => ?_), ?_⟩
        · rcases List.mem_cons.1 hi with y | y
          · exact List.mem_cons_of_mem _ (List.mem_append_left _ (sub i (Or.inl y)))
          · rcases List.mem_append.1 y with y | y
            · exact List.mem_cons_of_mem _ (List.mem_append_left _ (sub i (Or.inr y)))
            · exact List.mem_cons_of_mem _ (List.mem_append_right _ y)
        · have ew : uN (nI (N + e0.1) + tcC c (N + e0.1 + 1)) = N + f.1 := by
            rw [w1]
            have e9 : nI (N + e0.1) + (nI f.1 - nI e0.1) = nI (N + f.1) := by
              rw [show nI (N + e0.1) = nI N + nI e0.1 from (n_add (by omega)).symm, show nI (N + f.1) = nI N + nI f.1 from (n_add (by omega)).symm]
              rw [Int32.sub_eq_add_neg, Int32.add_assoc (nI N), ← Int32.add_assoc (nI e0.1), Int32.add_comm (nI e0.1) (nI f.1), Int32.add_assoc (nI f.1), Int32.add_right_neg, Int32.add_zero]
            rw [e9, u_n (by omega)]
          rw [ew]
          have gf' : D2 (N + f.1) = some (u, d, sh pre w ((bsl + f.2.1) :: (f.2.2 ++ ms)), rkE + (f :: nl2).length) := (d2o _ (by omega)).trans gf
          exact nx_of a hu gf' (hO2 f (List.mem_cons_of_mem _ List.mem_cons_self)).1 (Rsh_r _ _) (by rw [sh_bt pre _ hp]; exact hF) (by rw [sh_bt pre _ hp]; exact hF) (by omega)
    have g2' : D2 (N + e0.1 + 2) = some (u, d + 1, sh pre w ((bsl + e0.2.1) :: (e0.2.2 ++ ms)), rb) := (d2o _ (by omega)).trans g2
    have alln : ∀ i, i ∈ (bsl + e0.2.1) :: (e0.2.2 ++ ms) → bsl ≤ i → ¬ (i - bsl) % 500000 = e0.2.1 + 1 := fun i hi hb => by
      rcases List.mem_cons.1 hi with y | y
      · rw [y]; omega
      · rcases List.mem_append.1 y with y | y
        · have := z4 i y; omega
        · have := hms i y hb; omega
    have cE := hcd e0 List.mem_cons_self
    have t3 : TI O H nu R (mkc c (tcC c) (tcN c) D2) := by
      refine TI_fi (h := N + e0.1) (ln := 2) (x := (u, d, sh pre w ((bsl + e0.2.1) :: (e0.2.2 ++ ms)), rkE + nl.length + 1)) t2 (by decide) (Or.inr rfl) noO (by show N + e0.1 + 2 ≤ tcN c; omega) (fun _ _ => rfl) rfl d2e (fun i y h1 h2 ey => ?_) (fun h' hh => ?_) (fun q => ?_) ?_
      · have ei : i = N + e0.1 + 1 := by omega
        have ey' : D2 i = some y := ey
        rw [ei, d2o _ (by omega), g1] at ey'
        cases ey'
      · rcases hh with y | y
        · rcases Nat.lt_or_ge h' (N + e0.1 + 2) with z | z
          · left
            by_cases y1 : h' = N + e0.1 + 1
            · exact absurd (y1 ▸ y) (hH e0 List.mem_cons_self).2
            · omega
          · exact Or.inr z
        · left; omega
      · exact ⟨fun y => ⟨Or.inl y, fun z => (hH e0 List.mem_cons_self).1 (z ▸ y)⟩, fun y => y.1.elim id (fun z => absurd z y.2)⟩
      · have z := OKq_of (O := O) (nu := nu) (c := mkc c (tcC c) (tcN c) D2) (pc := N + e0.1) (ln := 2) (R := R) (x := nI e0.2.1) (op := 65) d2e noO u42 (by show N + e0.1 + 1 ≤ tcN c; omega) (by omega) (by decide) (by decide) (by show tcC c (N + e0.1) &&& 255 = _; rw [cE]; exact em_lo (by decide)) (by show tcC c (N + e0.1) >>> ((8 : Int32) &&& 31) = _; rw [cE]; exact em_hi (by decide) (Sm3_n (by omega))) (fun c' a hc ro => OKI_4 (by decide) ⟨by decide, by rw [u_n (by omega)]; omega, by
          rw [u_n (by omega)]
          have ew : tcC c' (N + e0.1 + 1) = tcC c (N + e0.1 + 1) := hc (N + e0.1 + 1) (by omega) (by omega)
          have n1 : tcN c ≤ tcN c' := a.1
          obtain ⟨r', m1, m2⟩ := nxt c' a
          exact ⟨fun z => absurd z (by decide), fun _ => ⟨r', sh_has pre hp List.mem_cons_self, z3', shAll pre hp alln, by omega, m1, by rw [ew]; exact m2, nxS_of a hu g2' (hO2 e0 List.mem_cons_self).2 (Rsh_r _ _) (by rw [sh_bt pre _ hp]; exact hF) (by rw [sh_bt pre _ hp]; exact hF) (by omega)⟩, fun z => absurd z (by decide), fun z => absurd z (by decide), fun z => absurd z (by decide), fun z => absurd z (by decide), fun z => absurd z (by decide), fun z => absurd z (by decide), fun z => absurd z (by decide), fun z => absurd z (by decide), fun z => absurd z (by decide)⟩⟩)
        exact z
    refine ⟨D2, t3, fun q hq => ?_, fun e nl' h => ?_⟩
    · rw [d2o q (hq e0 List.mem_cons_self)]
      exact e1 q (fun e he => hq e (List.mem_cons_of_mem _ he))
    · cases h
      exact d2e
end CUW
end JnS438
section JnS439
/-! The class: rows of iters with what they do, and formers. -/
section CUX
variable {c c' c1 c2 : Ct} {O O' H H' : Nat → Prop} {u nu nu' pc ln R R' p p' d rk k op w n m m' q t t' cnt : Nat} {r pre ms ms' xm : List Nat} {x v wd : Int32} {Vm Vm' : Nat → Prop} {cs ins o as : List Int32} {gl : Nat × (Nat → Nat → Prop)} {C : Nat → Int32} {y : Nat × Nat × List Nat × Nat} {nl : List (Nat × Nat × List Nat)} {e0 : Nat × Nat × List Nat}
theorem tg_b {N a b : Nat} (h1 : N + b ≤ 1000000) (h2 : a ≤ b) : uN (nI (N + b) + (nI a - nI b)) = N + a := by
  have e9 : nI (N + b) + (nI a - nI b) = nI (N + a) := by
    rw [show nI (N + b) = nI N + nI b from (n_add (by omega)).symm, show nI (N + a) = nI N + nI a from (n_add (by omega)).symm]
    rw [Int32.sub_eq_add_neg, Int32.add_assoc (nI N), ← Int32.add_assoc (nI b), Int32.add_comm (nI b) (nI a), Int32.add_assoc (nI a), Int32.add_right_neg, Int32.add_zero]
  rw [e9, u_n (by omega)]
theorem Sm3_s {a b : Nat} (h : a < b) (h2 : b ≤ 1000000) : Sm3 (nI a - nI b) := by
  right
  have z : uN (nI a - nI b) = 4294967296 - (b - a) := by
    have lt := u_lt (nI a - nI b)
    have e : uN ((nI a - nI b) + nI b) = a := by
      rw [Int32.sub_eq_add_neg, Int32.add_assoc, Int32.add_left_neg, Int32.add_zero, u_n (by omega)]
    have f : uN ((nI a - nI b) + nI b) = (uN (nI a - nI b) + uN (nI b)) % 4294967296 := BitVec.toNat_add _ _
    rw [e, u_n (by omega)] at f
    omega
  omega
/-- a row of iters and what is worked behind it -/
def RwB (u p : Nat) (gl : Nat × (Nat → Nat → Prop)) (Vm : Nat → Prop) (p' : Nat) (xm : List Nat) (nl : List (Nat × Nat × List Nat)) (t : Nat) (cs : List Int32) : Prop := (p ≤ p' ∧ p' ≤ 180) ∧ (∀ i, i ∈ xm → bsl ≤ i ∧ (i - bsl) % 500000 < p') ∧ (2 * nl.length ≤ cs.length ∧ t ≤ cs.length) ∧ RwL p cs nl ∧ ∀ (O H : Nat → Prop) (nu R : Nat) (c : Ct) (d : Nat) (pre : List Nat) (w : Nat) (ms : List Nat) (C : Nat → Int32), TI O H nu R c → ¬ O (tcN c) → tcD c (tcN c) = some (u, d, sh pre w ms, R) → (∀ e, e ∈ pre → e < bsl) → CnC O u p gl Vm nu c w ms → 1000 + cs.length ≤ R → R ≤ RK → d + cs.length ≤ 100000 → tcN c + cs.length ≤ 36864 → (∀ i, i < tcN c → C i = tcC c i) → (∀ i, i < cs.length → (∀ e, e ∈ nl → ¬ i = e.1 + 1) → C (tcN c + i) = cs.getD i 0) → ∃ D, TI (fun q => O q ∨ ∃ e, e ∈ nl ∧ q = tcN c + e.1) (fun q => H q ∨ ∃ e, e ∈ nl ∧ q = tcN c + e.1) nu (R - cs.length + nl.length) (mkc c C (tcN c + cs.length) D) ∧ (∀ q, q ≤ tcN c → D q = tcD c q) ∧ D (tcN c + cs.length) = some (u, d + t, sh pre w (xm ++ ms), R - cs.length + nl.length) ∧ ∀ e, e ∈ nl → NxE u (tcN c) d pre w ms D e
theorem RwB_0 (h : Row u p gl Vm p' xm nl cs) : RwB u p gl Vm p' xm nl 0 cs := by
  obtain ⟨h1, h2, h3, h4, h5⟩ := h
  exact ⟨h1, h2, ⟨h3, Nat.zero_le _⟩, h4, h5⟩
/-- funcs are told below, so no NEXT of this row is an entry -/
theorem Unt_n {D : Nat → Option (Nat × Nat × List Nat × Nat)} {N : Nat} (ti : TI O H nu R c) (cn : CnC O u p gl Vm nu c w ms) (hD : tcD c (tcN c) = some (u, d, sh pre w ms, R)) (e1 : ∀ q, q ≤ tcN c → D q = tcD c q) (k1 : ∀ e, e ∈ nl → NxE u (tcN c) d pre w ms D e) : Unt (fun q => O q ∨ ∃ e, e ∈ nl ∧ q = tcN c + e.1) nu (mkc c C N D) := by
  intro v v1 v2 kv
  obtain ⟨b1, b2, b3, b4, rk, b5, b6⟩ := cn.2.2.2.2.2.2.2 v v1 v2 kv
  have dU := dd_of ti e1
  refine ⟨b1, b2, b3, fun z => ?_, rk, b5, dU _ _ b6⟩
  rcases z with z | ⟨e, he, z⟩
  · exact b4 z
  · have z' : tcE c v = tcN c + e.1 := z
    rcases Nat.lt_or_ge (tcN c) (tcE c v) with y | y
    · rw [ti.2.2.2.1 _ y] at b6; cases b6
    · have e0 : e.1 = 0 := by omega
      obtain ⟨⟨rk2, k2⟩, _⟩ := k1 e he
      rw [e0] at k2
      have k3 : D (tcN c) = _ := k2
      rw [e1 _ (Nat.le_refl _), hD] at k3
      have k4 := congrArg (fun s => match s with | some s => s.2.2.1 | none => []) k3
      have k5 : sh pre w ms = sh pre w ((bsl + e.2.1) :: (e.2.2 ++ ms)) := k4
      have k6 := congrArg List.length k5
      rw [List.length_append, List.length_append, List.length_cons, List.length_cons, List.length_cons, List.length_append] at k6
      omega
theorem CnC_n {D : Nat → Option (Nat × Nat × List Nat × Nat)} {N : Nat} (ti : TI O H nu R c) (cn : CnC O u p gl Vm nu c w ms) (hD : tcD c (tcN c) = some (u, d, sh pre w ms, R)) (e1 : ∀ q, q ≤ tcN c → D q = tcD c q) (k1 : ∀ e, e ∈ nl → NxE u (tcN c) d pre w ms D e) (hp' : p ≤ p' ∧ p' ≤ 180) (x1 : ∀ i, i ∈ xm → bsl ≤ i ∧ (i - bsl) % 500000 < p') (hV : ∀ i, Vm' i → Vm i ∨ i ∈ xm) : CnC (fun q => O q ∨ ∃ e, e ∈ nl ∧ q = tcN c + e.1) u p' gl Vm' nu (mkc c C N D) w (xm ++ ms) := by
  obtain ⟨a1, a2, a3, a4, a5, a6, a7, a8⟩ := cn
  refine ⟨a1, a2, a3, a4, hp'.2, fun i hi hb => ?_, fun i hi => ?_, Unt_n ti ⟨a1, a2, a3, a4, a5, a6, a7, a8⟩ hD e1 k1⟩
  · rcases List.mem_append.1 hi with z | z
    · exact (x1 i z).2
    · have := a6 i z hb; omega
  · rcases hV i hi with z | z
    · exact List.mem_append_right _ (a7 i z)
    · exact List.mem_append_left _ z
theorem noO_nl (ti : TI O H nu R c) (no : ¬ O (tcN c)) (rl : RwL p cs nl) : ∀ q, tcN c + cs.length ≤ q → ¬ (O q ∨ ∃ e, e ∈ nl ∧ q = tcN c + e.1) := fun q hq z => by
  rcases z with z | ⟨e, he, z⟩
  · exact noO_ge ti no q (by omega) z
  · have := RwL_le nl rl e he; omega
theorem RwB_sg (h : RwB u p gl Vm p' xm nl t cs) (hV : ∀ i, Vm' i → Vm i ∨ i ∈ xm) (g : Sgm u p' gl Vm' n o) : RwB u p gl Vm p' xm nl (t + n) (cs ++ o) := by
  obtain ⟨h1, h2, h3, h4, h5⟩ := h
  obtain ⟨g1, g2⟩ := g
  refine ⟨h1, h2, by rw [List.length_append]; omega, RwL_ap nl h4, fun O H nu R c d pre w ms C ti no hD hp cn hR1 hR2 hd hN hC1 hC2 => ?_⟩
  rw [List.length_append] at hR1 hd hN hC2 ⊢
  have nf : ∀ i, cs.length ≤ i → ∀ e, e ∈ nl → ¬ i = e.1 + 1 := fun i hi e he => by have := RwL_le nl h4 e he; omega
  obtain ⟨D1, t1, e1, f1, k1⟩ := h5 O H nu R c d pre w ms C ti no hD hp cn (by omega) hR2 (by omega) (by omega) hC1 (fun i hi hh => by rw [hC2 i (by omega) hh, gd_l hi])
  obtain ⟨D2, t2, e2, f2⟩ := g2 _ _ nu (R - cs.length + nl.length) (mkc c C (tcN c + cs.length) D1) (d + t) pre w (xm ++ ms) C t1 (noO_nl ti no h4 _ (Nat.le_refl _)) f1 hp (CnC_n ti cn hD e1 k1 h1 h2 hV) (by omega) (by omega) (by omega) (by show tcN c + cs.length + o.length ≤ _; omega) (fun _ _ => rfl) (fun i hi => by
    show C (tcN c + cs.length + i) = _
    rw [Nat.add_assoc, hC2 _ (by omega) (nf _ (by omega)), gd_r])
  have rr : R - (cs.length + o.length) + nl.length = R - cs.length + nl.length - o.length := by omega
  rw [rr]
  refine ⟨D2, ?_, fun q hq => ?_, ?_, fun e he => ?_⟩
  · rw [← Nat.add_assoc]; exact t2
  · rw [e2 q (by show q ≤ tcN c + cs.length; omega)]; exact e1 q hq
  · rw [← Nat.add_assoc, ← Nat.add_assoc]; exact f2
  · have le := RwL_le nl h4 e he
    obtain ⟨⟨ra, a1⟩, a2, rb, a3, a4⟩ := k1 e he
    refine ⟨⟨ra, (e2 _ (by show tcN c + e.1 ≤ tcN c + cs.length; omega)).trans a1⟩, (e2 _ (by show tcN c + e.1 + 1 ≤ tcN c + cs.length; omega)).trans a2, rb, a3, (e2 _ (by show tcN c + e.1 + 2 ≤ tcN c + cs.length; omega)).trans a4⟩
/-- where it doesn't hold the next turn begins -/
theorem RwB_jb (h : RwB u p gl Vm p' xm (e0 :: nl) 1 cs) (ho : op = 4 ∨ op = 5) (hs : ∀ i, i = bsl + e0.2.1 ∨ i ∈ e0.2.2 → i ∈ xm) : RwB u p gl Vm p' xm (e0 :: nl) 0 (cs ++ [em op (nI e0.1 - nI cs.length)]) := by
  obtain ⟨h1, h2, h3, h4, h5⟩ := h
  have el : (cs ++ [em op (nI e0.1 - nI cs.length)]).length = cs.length + 1 := by rw [List.length_append]; rfl
  have rk40 : RK = 40000 := rfl
  refine ⟨h1, h2, by rw [el]; omega, RwL_ap _ h4, fun O H nu R c d pre w ms C ti no hD hp cn hR1 hR2 hd hN hC1 hC2 => ?_⟩
  rw [el] at hR1 hd hN hC2 ⊢
  have nf : ∀ i, cs.length ≤ i → ∀ e, e ∈ e0 :: nl → ¬ i = e.1 + 1 := fun i hi e he => by have := RwL_le _ h4 e he; omega
  obtain ⟨D1, t1, e1, f1, k1⟩ := h5 O H nu R c d pre w ms C ti no hD hp cn (by omega) hR2 (by omega) (by omega) hC1 (fun i hi hh => by rw [hC2 i (by omega) hh, gd_l hi])
  have nO := noO_nl ti no h4
  have le0 := RwL_le _ h4 e0 List.mem_cons_self
  have cA : C (tcN c + cs.length) = em op (nI e0.1 - nI cs.length) := by
    have z := hC2 (cs.length + 0) (by omega) (nf _ (by omega))
    rw [gd_r] at z; exact z
  have cn1 := CnC_n (C := C) (N := tcN c + cs.length) (Vm' := Vm) ti cn hD e1 k1 h1 h2 (fun i hi => Or.inl hi)
  generalize hQ : R - cs.length + (e0 :: nl).length = Q at *
  have l1 : (e0 :: nl).length = nl.length + 1 := rfl
  obtain ⟨⟨ra, a1⟩, a2, rb, a3, a4⟩ := k1 e0 List.mem_cons_self
  have dU2 : ∀ q y', D1 q = some y' → up1 (mkc c C (tcN c + cs.length) D1) 1 (u, d + 0, sh pre w (xm ++ ms), Q - 1) q = some y' := fun q y' e => up1_d t1 (Nat.le_refl _) e
  have btw : ∀ (X : List Nat) (d' : Nat), tcF c u ≤ bt d' (sh pre w X) := fun X d' => by rw [sh_bt pre _ hp]; exact cn.2.2.1
  have t3 : TI (fun q => O q ∨ ∃ e, e ∈ e0 :: nl ∧ q = tcN c + e.1) (fun q => H q ∨ ∃ e, e ∈ e0 :: nl ∧ q = tcN c + e.1) nu (Q - 1) (mkc c C (tcN c + cs.length + 1) (up1 (mkc c C (tcN c + cs.length) D1) 1 (u, d + 0, sh pre w (xm ++ ms), Q - 1))) := TI_s1 (c := mkc c C (tcN c + cs.length) D1) t1 (nO _ (Nat.le_refl _)) (Nat.le_refl _) (by show tcN c + cs.length + 1 ≤ _; omega) (fun _ _ => rfl) (fun y ey => by
    have ey' : D1 (tcN c + cs.length) = some y := ey
    rw [f1] at ey'
    cases ey'
    refine OKq_of (op := op) (x := nI e0.1 - nI cs.length) (dU2 _ _ f1) (nO _ (Nat.le_refl _)) cn.2.1 (Nat.le_refl _) (by omega) (by omega) (Nat.le_refl _) (by show C (tcN c + cs.length) &&& 255 = _; rw [cA]; exact em_lo (by omega)) (by show C (tcN c + cs.length) >>> ((8 : Int32) &&& 31) = _; rw [cA]; exact em_hi (by omega) (Sm3_s (by omega) (by omega))) (fun c' a hc ro => OKI_1 ⟨by omega, by omega⟩ ⟨fun z => absurd z (by omega), fun z => absurd z (by omega), fun _ => ⟨d, rfl, ?_, ?_⟩, fun z => absurd z (by omega), fun z => absurd z (by omega)⟩)
    · exact nx_of a cn.1 (up1_e (c := mkc c C (tcN c + cs.length) D1) (ln := 1)) (nO _ (by show tcN c + cs.length ≤ tcN c + cs.length + 1; omega)) (Rsh_r _ _) (btw _ _) (btw _ _) (by show Q - 1 < Q; omega)
    · show Nx c' (uN (nI (tcN c + cs.length) + (nI e0.1 - nI cs.length))) u d (sh pre w (xm ++ ms)) Q
      rw [tg_b (by omega) (by omega)]
      exact nxO_of a cn.1 ro (dU2 _ _ a1) (Or.inr ⟨e0, List.mem_cons_self, rfl⟩) (shRsh d hp (fun i hi => by
        rcases List.mem_cons.1 hi with z | z
        · exact List.mem_append_left _ (hs i (Or.inl z))
        · rcases List.mem_append.1 z with z | z
          · exact List.mem_append_left _ (hs i (Or.inr z))
          · exact List.mem_append_right _ z)) (btw _ _) (btw _ _) (Nat.le_refl _)) (by omega)
  have rr : R - (cs.length + 1) + (e0 :: nl).length = Q - 1 := by omega
  rw [rr]
  refine ⟨up1 (mkc c C (tcN c + cs.length) D1) 1 (u, d + 0, sh pre w (xm ++ ms), Q - 1), ?_, fun q hq => ?_, ?_, fun e he => ?_⟩
  · rw [← Nat.add_assoc]; exact t3
  · rw [up1_o (by show ¬ q = tcN c + cs.length + 1; omega)]; exact e1 q hq
  · rw [← Nat.add_assoc]; exact up1_e (c := mkc c C (tcN c + cs.length) D1)
  · have le := RwL_le _ h4 e he
    obtain ⟨⟨ra, a1⟩, a2, rb, a3, a4⟩ := k1 e he
    refine ⟨⟨ra, dU2 _ _ a1⟩, ?_, rb, a3, dU2 _ _ a4⟩
    rw [up1_o (by show ¬ _ = tcN c + cs.length + 1; omega)]; exact a2
theorem gD_mem {α : Type} {z : α} : ∀ (l : List α) (i : Nat), i < l.length → l.getD i z ∈ l
  | [], i, h => absurd h (Nat.not_lt_zero _)
  | a :: l, 0, _ => List.mem_cons_self
  | a :: l, i + 1, h => List.mem_cons_of_mem _ (gD_mem l i (Nat.lt_of_succ_lt_succ h))
/-- the words of a row: each NEXT leads to the one before it, the first to the end -/
theorem RwL_wd : ∀ (nl : List (Nat × Nat × List Nat)), RwL p cs nl → ∀ i, i + 1 < nl.length → cs.getD ((nl.getD i (0, 0, [])).1 + 1) 0 = nI (nl.getD (i + 1) (0, 0, [])).1 - nI (nl.getD i (0, 0, [])).1 ∧ (nl.getD (nl.length - 1) (0, 0, [])).1 + 2 ≤ (nl.getD i (0, 0, [])).1
  | [], _, i, h => absurd h (Nat.not_lt_zero _)
  | [e], _, i, h => absurd h (by show ¬ i + 1 < 1; omega)
  | e :: f :: nl, z, i, h => by
    obtain ⟨z1, z2, z3, z4, z5, z6, z7⟩ := z
    cases i with
    | zero =>
      refine ⟨(z6 f nl rfl).1, ?_⟩
      show ((e :: f :: nl).getD (nl.length + 1) (0, 0, [])).1 + 2 ≤ e.1
      have m : (e :: f :: nl).getD (nl.length + 1) (0, 0, []) ∈ f :: nl := by
        show (f :: nl).getD nl.length (0, 0, []) ∈ f :: nl
        exact gD_mem _ _ (by show nl.length < nl.length + 1; omega)
      exact z5 _ m
    | succ j =>
      have z := RwL_wd (f :: nl) z7 j (by have : j + 1 + 1 < (f :: nl).length + 1 := h; omega)
      exact z
/-- where a row begins -/
def fstP (nl : List (Nat × Nat × List Nat)) : Nat := (nl.getD (nl.length - 1) (0, 0, [])).1
theorem RwL_cd : ∀ (nl : List (Nat × Nat × List Nat)), RwL p cs nl → ∀ e, e ∈ nl → cs.getD e.1 0 = em 65 (nI e.2.1)
  | [], _, e, h => absurd h List.not_mem_nil
  | f :: nl, z, e, h => by
    rcases List.mem_cons.1 h with q | q
    · rw [q]; exact z.2.1
    · exact RwL_cd nl z.2.2.2.2.2.2 e q
theorem RwL_nc : ∀ (nl : List (Nat × Nat × List Nat)), RwL p cs nl → ∀ e f, e ∈ nl → f ∈ nl → ¬ e.1 = f.1 + 1
  | [], _, e, f, h, _ => absurd h List.not_mem_nil
  | g :: nl, z, e, f, he, hf => by
    obtain ⟨z1, z2, z3, z4, z5, z6, z7⟩ := z
    rcases List.mem_cons.1 he with q | q
    · rcases List.mem_cons.1 hf with q2 | q2
      · rw [q, q2]; omega
      · rw [q]; have := z5 f q2; omega
    · rcases List.mem_cons.1 hf with q2 | q2
      · rw [q2]; have := z5 e q; omega
      · exact RwL_nc nl z7 e f q q2
theorem fst_m (h : 1 ≤ nl.length) : ∃ e, e ∈ nl ∧ e.1 = fstP nl := by
  exact ⟨nl.getD (nl.length - 1) (0, 0, []), gD_mem _ _ (by omega), rfl⟩
/-- CLEAR -/
theorem It_cl (h : p + k ≤ 180) : Itc u p gl Vm m m [em 68 (nI p), nI k] := It_2 (by decide) (Sm3_n (by omega)) (fun O nu R c c' pc d pre w ms hN ev no2 hD2 hp cn hR1 hR2 hd a => OKI_4 (by decide) ⟨by decide, by rw [u_n (by omega)]; omega, by
  rw [u_n (by omega)]
  have bs : bsl = 1000000 := rfl
  have n1 := a.1
  exact ⟨fun z => absurd z (by decide), fun z => absurd z (by decide), fun z => absurd z (by decide), fun z => absurd z (by decide), fun _ => ⟨sh pre w ms, by omega, by rw [ev, u_n (by omega)]; exact h, sh_mrl pre hp (fun i hi => hi), shAll pre hp (fun i hi z => by
    have := cn.2.2.2.2.2.1 i hi (by omega)
    rw [ev, u_n (by omega)] at z
    omega), it_N a cn hp hD2 no2 (by omega)⟩, fun z => absurd z (by decide), fun z => absurd z (by decide), fun z => absurd z (by decide), fun z => absurd z (by decide), fun z => absurd z (by decide), fun z => absurd z (by decide)⟩⟩)
end CUX
end JnS439
