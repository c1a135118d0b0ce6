/-! The class: segments with jumps that are still to be aimed. -/
section CUT
variable {c c' c1 c2 : Ct} {O O' H H' : Nat → Prop} {u nu nu' pc ln R R' p d rk k op w n m m' q t t' : Nat} {r pre ms ms' : List Nat} {x v : Int32} {Vm : Nat → Prop} {cs ins o : List Int32} {hl : List (Nat × Nat × Nat)} {e0 e1 : Nat × Nat × Nat} {gl : Nat × (Nat → Nat → Prop)}
theorem TI_h (t : TI O H nu R c) (h : ∀ q, H' q ↔ H q) : TI O H' nu R c := by
  have e : H' = H := funext (fun q => propext (h q))
  rw [e]; exact t
/-- a jump that waits: its place, its op, the values below what it looks at -/
def HlD (u N d : Nat) (r : List Nat) (R : Nat) (D : Nat → Option (Nat × Nat × List Nat × Nat)) (e : Nat × Nat × Nat) : Prop := D (N + e.1) = some (u, d + e.2.2 + (if e.2.1 = 3 then 0 else 1), r, R - e.1) ∧ (¬ e.2.1 = 3 → D (N + e.1 + 1) = some (u, d + e.2.2, r, R - e.1 - 1))
def PKh (u p : Nat) (gl : Nat × (Nat → Nat → Prop)) (Vm : Nat → Prop) (hl : List (Nat × Nat × Nat)) (t : Nat) (cs : List Int32) : Prop := t ≤ cs.length ∧ (∀ e, e ∈ hl → e.1 < cs.length ∧ 3 ≤ e.2.1 ∧ e.2.1 ≤ 7) ∧ hl.Pairwise (fun a b => ¬ a.1 = b.1) ∧ ∀ (O H : Nat → Prop) (nu R : Nat) (c : Ct) (d : Nat) (pre : List Nat) (w : Nat) (ms : List Nat) (C : Nat → Int32), TI O H nu R c → ¬ O (tcN c) → tcD c (tcN c) = some (u, d, sh pre w ms, R) → (∀ e, e ∈ pre → e < bsl) → CnC O u p gl Vm nu c w ms → 1000 + cs.length ≤ R → R ≤ RK → d + cs.length ≤ 100000 → tcN c + cs.length ≤ 36864 → (∀ i, i < tcN c → C i = tcC c i) → (∀ i, i < cs.length → (∀ e, e ∈ hl → ¬ e.1 = i) → C (tcN c + i) = cs.getD i 0) → ∃ D, TI O (fun q => H q ∨ ∃ e, e ∈ hl ∧ q = tcN c + e.1) nu (R - cs.length) (mkc c C (tcN c + cs.length) D) ∧ (∀ q, q ≤ tcN c → D q = tcD c q) ∧ D (tcN c + cs.length) = some (u, d + t, sh pre w ms, R - cs.length) ∧ ∀ e, e ∈ hl → HlD u (tcN c) d (sh pre w ms) R D e
theorem Ph_nil (u p : Nat) (gl : Nat × (Nat → Nat → Prop)) (Vm : Nat → Prop) : PKh u p gl Vm [] 0 [] := by
  refine ⟨Nat.le_refl _, fun e h => absurd h List.not_mem_nil, List.Pairwise.nil, fun O H nu R c d pre w ms C ti no hD hp cn hR1 hR2 hd hN hC1 hC2 => ?_⟩
  obtain ⟨D, a1, a2, a3⟩ := (Sgm_nil u p gl Vm).2 O H nu R c d pre w ms C ti no hD hp cn hR1 hR2 hd hN hC1 (fun i hi => hC2 i hi (fun e h => absurd h List.not_mem_nil))
  exact ⟨D, TI_h a1 (fun q => ⟨fun z => z.elim id (fun ⟨e, h, _⟩ => absurd h List.not_mem_nil), Or.inl⟩), a2, a3, fun e h => absurd h List.not_mem_nil⟩
theorem Ph_end (h : PKh u p gl Vm [] t cs) : Sgm u p gl Vm t cs := by
  obtain ⟨h1, h2, h3, h4⟩ := h
  refine ⟨h1, fun O H nu R c d pre w ms C ti no hD hp cn hR1 hR2 hd hN hC1 hC2 => ?_⟩
  obtain ⟨D, a1, a2, a3, _⟩ := h4 O H nu R c d pre w ms C ti no hD hp cn hR1 hR2 hd hN hC1 (fun i hi _ => hC2 i hi)
  exact ⟨D, TI_h a1 (fun q => ⟨Or.inl, fun z => z.elim id (fun ⟨e, h, _⟩ => absurd h List.not_mem_nil)⟩), a2, a3⟩
theorem noO_of (ti : TI O H nu R c) : ∀ q, tcN c < q → ¬ O q := fun q hq o => by
  obtain ⟨y, ey⟩ := (ti.2.1 _ o).2
  rw [ti.2.2.2.1 _ hq] at ey
  cases ey
theorem noO_ge (ti : TI O H nu R c) (no : ¬ O (tcN c)) : ∀ q, tcN c ≤ q → ¬ O q := fun q hq o => by
  by_cases z : q = tcN c
  · exact no (z ▸ o)
  · exact noO_of ti q (by omega) o
theorem Ph_sg (h : PKh u p gl Vm hl t cs) (g : Sgm u p gl Vm n o) : PKh u p gl Vm hl (t + n) (cs ++ o) := by
  obtain ⟨h1, h2, h3, h4⟩ := h
  obtain ⟨g1, g2⟩ := g
  refine ⟨by rw [List.length_append]; omega, fun e he => ⟨by rw [List.length_append]; have := (h2 e he).1; omega, (h2 e he).2⟩, h3, fun O H nu R c d pre w ms C ti no hD hp cn hR1 hR2 hd hN hC1 hC2 => ?_⟩
  rw [List.length_append] at hR1 hd hN hC2 ⊢
  obtain ⟨D1, t1, e1, f1, k1⟩ := h4 O H nu R c d pre w ms C ti no hD hp cn (by omega) hR2 (by omega) (by omega) hC1 (fun i hi hn => by rw [hC2 i (by omega) hn, gd_l hi])
  have dd := dd_of ti e1
  obtain ⟨D2, t2, e2, f2⟩ := g2 O _ nu (R - cs.length) (mkc c C (tcN c + cs.length) D1) (d + t) pre w ms C t1 (noO_ge ti no _ (Nat.le_add_right _ _)) f1 hp (CnC_k cn dd) (by omega) (by omega) (by omega) (by show tcN c + cs.length + o.length ≤ _; omega) (fun _ _ => rfl) (fun i hi => by
    show C (tcN c + cs.length + i) = _
    rw [Nat.add_assoc, hC2 _ (by omega) (fun e he q => by have := (h2 e he).1; omega), gd_r])
  refine ⟨D2, ?_, fun q hq => ?_, ?_, fun e he => ?_⟩
  · rw [← Nat.sub_sub, ← Nat.add_assoc]; exact t2
  · rw [e2 q (by show q ≤ tcN c + cs.length; omega), ← e1 q hq]
  · rw [← Nat.sub_sub, ← Nat.add_assoc, ← Nat.add_assoc]; exact f2
  · have l := (h2 e he).1
    obtain ⟨k2, k3⟩ := k1 e he
    exact ⟨(e2 _ (by show tcN c + e.1 ≤ tcN c + cs.length; omega)).trans k2, fun z => (e2 _ (by show tcN c + e.1 + 1 ≤ tcN c + cs.length; omega)).trans (k3 z)⟩
/-- a segment that makes n of m -/
theorem Ph_s2 {b : Nat} (h : PKh u p gl Vm hl (b + m) cs) (g2 : Sg2 u p gl Vm m n o) (g1 : b + n ≤ cs.length + o.length) : PKh u p gl Vm hl (b + n) (cs ++ o) := by
  obtain ⟨h1, h2, h3, h4⟩ := h
  refine ⟨by rw [List.length_append]; omega, fun e he => ⟨by rw [List.length_append]; have := (h2 e he).1; omega, (h2 e he).2⟩, h3, fun O H nu R c d pre w ms C ti no hD hp cn hR1 hR2 hd hN hC1 hC2 => ?_⟩
  rw [List.length_append] at hR1 hd hN hC2 ⊢
  obtain ⟨D1, t1, e1, f1, k1⟩ := h4 O H nu R c d pre w ms C ti no hD hp cn (by omega) hR2 (by omega) (by omega) hC1 (fun i hi hn => by rw [hC2 i (by omega) hn, gd_l hi])
  have dd := dd_of ti e1
  obtain ⟨D2, t2, e2, f2⟩ := g2 O _ nu (R - cs.length) (mkc c C (tcN c + cs.length) D1) (d + b) pre w ms C t1 (noO_ge ti no _ (Nat.le_add_right _ _)) (by rw [Nat.add_assoc]; exact f1) hp (CnC_k cn dd) (by omega) (by omega) (by omega) (by show tcN c + cs.length + o.length ≤ _; omega) (fun _ _ => rfl) (fun i hi => by
    show C (tcN c + cs.length + i) = _
    rw [Nat.add_assoc, hC2 _ (by omega) (fun e he q => by have := (h2 e he).1; omega), gd_r])
  refine ⟨D2, ?_, fun q hq => ?_, ?_, fun e he => ?_⟩
  · rw [← Nat.sub_sub, ← Nat.add_assoc]; exact t2
  · rw [e2 q (by show q ≤ tcN c + cs.length; omega), ← e1 q hq]
  · rw [← Nat.sub_sub, ← Nat.add_assoc, ← Nat.add_assoc]; exact f2
  · have l := (h2 e he).1
    obtain ⟨k2, k3⟩ := k1 e he
    exact ⟨(e2 _ (by show tcN c + e.1 ≤ tcN c + cs.length; omega)).trans k2, fun z => (e2 _ (by show tcN c + e.1 + 1 ≤ tcN c + cs.length; omega)).trans (k3 z)⟩
/-- one instruction more -/
theorem Ph_it {b : Nat} (h : PKh u p gl Vm hl (b + m) cs) (hl1 : 1 ≤ ins.length) (hm : b + m' ≤ cs.length + ins.length) (it : Itc u p gl Vm m m' ins) : PKh u p gl Vm hl (b + m') (cs ++ ins) := by
  obtain ⟨h1, h2, h3, h4⟩ := h
  refine ⟨by rw [List.length_append]; omega, fun e he => ⟨by rw [List.length_append]; have := (h2 e he).1; omega, (h2 e he).2⟩, h3, fun O H nu R c d pre w ms C ti no hD hp cn hR1 hR2 hd hN hC1 hC2 => ?_⟩
  rw [List.length_append] at hR1 hd hN hC2 ⊢
  obtain ⟨D1, t1, e1, f1, k1⟩ := h4 O H nu R c d pre w ms C ti no hD hp cn (by omega) hR2 (by omega) (by omega) hC1 (fun i hi hn => by rw [hC2 i (by omega) hn, gd_l hi])
  have dd := dd_of ti e1
  have nO := noO_ge ti no
  let D2 : Nat → Option (Nat × Nat × List Nat × Nat) := fun q => if q = tcN c + cs.length + ins.length then some (u, d + (b + m'), sh pre w ms, R - cs.length - ins.length) else D1 q
  have d2 : ∀ q, ¬ q = tcN c + cs.length + ins.length → D2 q = D1 q := fun q hq => if_neg hq
  have d2e : D2 (tcN c + cs.length + ins.length) = some (u, d + (b + m'), sh pre w ms, R - cs.length - ins.length) := if_pos rfl
  have nb : D1 (tcN c + cs.length + ins.length) = none := t1.2.2.2.1 _ (by show tcN c + cs.length < _; omega)
  have dd2 : ∀ q y, D1 q = some y → D2 q = some y := fun q y e => by
    rw [d2 q (fun z => by rw [z, nb] at e; cases e)]; exact e
  have t2 : TI O (fun q => H q ∨ ∃ e, e ∈ hl ∧ q = tcN c + e.1) nu (R - cs.length - ins.length) (mkc c C (tcN c + cs.length + ins.length) D2) := by
    refine TI_em (ln := ins.length) (y := some (u, d + (b + m'), sh pre w ms, R - cs.length - ins.length)) (Hn := False) (On := False) t1 hl1 (by show tcN c + cs.length + ins.length ≤ _; omega) (fun _ _ => rfl) rfl ⟨⟨rfl, rfl⟩, rfl, rfl⟩ (fun q => rfl) (fun q => ⟨Or.inl, fun z => z.elim id (fun w => w.2.elim)⟩) (fun z => z.elim) (fun q => ⟨Or.inl, fun z => z.elim id (fun w => w.2.elim)⟩) (fun o => nO _ (Nat.le_add_right _ _) o) (fun _ y ey => ?_) (Nat.sub_le _ _)
    have ey' : D1 (tcN c + cs.length) = some y := ey
    rw [f1] at ey'
    cases ey'
    exact it O nu (R - cs.length) (mkc c C (tcN c + cs.length + ins.length) D2) (tcN c + cs.length) (d + b) pre w ms (fun i hi => by
      show C (tcN c + cs.length + i) = _
      rw [Nat.add_assoc, hC2 _ (by omega) (fun e he q => by have := (h2 e he).1; omega), gd_r]) (Nat.le_refl _) (nO _ (Nat.le_add_right _ _)) (nO _ (by omega)) (by have z := dd2 _ _ f1; rw [← Nat.add_assoc] at z; exact z) (by have z := d2e; rw [← Nat.add_assoc] at z; exact z) hp (CnC_k cn (fun q y e => dd2 q y (dd q y e))) (by omega) (by omega) ⟨by omega, by omega⟩
  refine ⟨D2, ?_, fun q hq => ?_, ?_, fun e he => ?_⟩
  · rw [← Nat.sub_sub, ← Nat.add_assoc]; exact t2
  · rw [d2 q (by omega), ← e1 q hq]
  · rw [← Nat.sub_sub, ← Nat.add_assoc]; exact d2e
  · obtain ⟨k2, k3⟩ := k1 e he
    exact ⟨dd2 _ _ k2, fun z => dd2 _ _ (k3 z)⟩
/-- a jump is laid that looks at the topmost value; or one that doesn't: then it goes on as one likes -/
theorem Ph_j (h : PKh u p gl Vm hl t cs) (ho : 3 ≤ op ∧ op ≤ 7) (ht : ¬ op = 3 → t = t' + 1) (h3 : op = 3 → t' ≤ cs.length + 1) (x : Int32) : PKh u p gl Vm ((cs.length, op, if op = 3 then t else t') :: hl) t' (cs ++ [em op x]) := by
  obtain ⟨h1, h2, h3', h4⟩ := h
  have el : ∀ i : Int32, [i].length = 1 := fun _ => rfl
  have tb : t' ≤ cs.length + 1 := by
    by_cases z : op = 3
    · exact h3 z
    · have := ht z; omega
  refine ⟨by rw [List.length_append, el]; exact tb, fun e he => ?_, ?_, fun O H nu R c d pre w ms C ti no hD hp cn hR1 hR2 hd hN hC1 hC2 => ?_⟩
  · rw [List.length_append, el]
    rcases List.mem_cons.1 he with z | z
    · rw [z]; exact ⟨by show cs.length < _; omega, ho⟩
    · exact ⟨by have := (h2 e z).1; omega, (h2 e z).2⟩
  · refine List.Pairwise.cons (fun e he => ?_) h3'
    have := (h2 e he).1
    show ¬ cs.length = e.1
    omega
  rw [List.length_append, el] at hR1 hd hN hC2 ⊢
  obtain ⟨D1, t1, e1, f1, k1⟩ := h4 O H nu R c d pre w ms C ti no hD hp cn (by omega) hR2 (by omega) (by omega) hC1 (fun i hi hn => by
    rw [hC2 i (by omega) (fun e he => ?_), gd_l hi]
    rcases List.mem_cons.1 he with z | z
    · rw [z]; show ¬ cs.length = i; omega
    · exact hn e z)
  have nO := noO_ge ti no
  let D2 : Nat → Option (Nat × Nat × List Nat × Nat) := fun q => if q = tcN c + cs.length + 1 then some (u, d + t', sh pre w ms, R - cs.length - 1) else D1 q
  have d2 : ∀ q, ¬ q = tcN c + cs.length + 1 → D2 q = D1 q := fun q hq => if_neg hq
  have d2e : D2 (tcN c + cs.length + 1) = some (u, d + t', sh pre w ms, R - cs.length - 1) := if_pos rfl
  have nb : D1 (tcN c + cs.length + 1) = none := t1.2.2.2.1 _ (by show tcN c + cs.length < _; omega)
  have dd2 : ∀ q y, D1 q = some y → D2 q = some y := fun q y e => by
    rw [d2 q (fun z => by rw [z, nb] at e; cases e)]; exact e
  have t2 : TI O (fun q => H q ∨ ∃ e, e ∈ ((cs.length, op, if op = 3 then t else t') :: hl) ∧ q = tcN c + e.1) nu (R - cs.length - 1) (mkc c C (tcN c + cs.length + 1) D2) := by
    refine TI_em (ln := 1) (y := some (u, d + t', sh pre w ms, R - cs.length - 1)) (Hn := True) (On := False) t1 (Nat.le_refl _) (by show tcN c + cs.length + 1 ≤ _; omega) (fun _ _ => rfl) rfl ⟨⟨rfl, rfl⟩, rfl, rfl⟩ (fun q => rfl) (fun q => ⟨Or.inl, fun z => z.elim id (fun w => w.2.elim)⟩) (fun z => z.elim) (fun q => ?_) (fun _ => trivial) (fun z => absurd trivial z) (Nat.sub_le _ _)
    constructor
    · rintro (z | ⟨e, he, hq⟩)
      · exact Or.inl (Or.inl z)
      · rcases List.mem_cons.1 he with y | y
        · rw [y] at hq; exact Or.inr ⟨hq, trivial⟩
        · exact Or.inl (Or.inr ⟨e, y, hq⟩)
    · rintro ((z | ⟨e, he, hq⟩) | ⟨z, _⟩)
      · exact Or.inl z
      · exact Or.inr ⟨e, List.mem_cons_of_mem _ he, hq⟩
      · exact Or.inr ⟨_, List.mem_cons_self, z⟩
  refine ⟨D2, ?_, fun q hq => ?_, ?_, fun e he => ?_⟩
  · rw [← Nat.sub_sub, ← Nat.add_assoc]; exact t2
  · rw [d2 q (by omega), ← e1 q hq]
  · rw [← Nat.sub_sub, ← Nat.add_assoc]; exact d2e
  · rcases List.mem_cons.1 he with y | y
    · rw [y]
      refine ⟨?_, fun z => ?_⟩
      · show D2 (tcN c + cs.length) = some (u, d + (if op = 3 then t else t') + (if op = 3 then 0 else 1), sh pre w ms, R - cs.length)
        rw [d2 _ (by omega), f1]
        by_cases z : op = 3
        · rw [if_pos z, if_pos z]; rfl
        · rw [if_neg z, if_neg z, ht z]; rfl
      · show D2 (tcN c + cs.length + 1) = some (u, d + (if op = 3 then t else t'), sh pre w ms, R - cs.length - 1)
        have z' : ¬ op = 3 := z
        rw [d2e, if_neg z']
    · obtain ⟨k2, k3⟩ := k1 e y
      exact ⟨dd2 _ _ k2, fun z => dd2 _ _ (k3 z)⟩
theorem Ph_sw (h : PKh u p gl Vm (e0 :: e1 :: hl) t cs) : PKh u p gl Vm (e1 :: e0 :: hl) t cs := by
  obtain ⟨h1, h2, h3, h4⟩ := h
  have mm : ∀ e, e ∈ e1 :: e0 :: hl ↔ e ∈ e0 :: e1 :: hl := fun e => by
    rw [List.mem_cons, List.mem_cons, List.mem_cons, List.mem_cons]
    exact ⟨fun z => z.elim (fun y => Or.inr (Or.inl y)) (fun y => y.elim Or.inl (fun w => Or.inr (Or.inr w))), fun z => z.elim (fun y => Or.inr (Or.inl y)) (fun y => y.elim Or.inl (fun w => Or.inr (Or.inr w)))⟩
  refine ⟨h1, fun e he => h2 e ((mm e).1 he), ?_, fun O H nu R c d pre w ms C ti no hD hp cn hR1 hR2 hd hN hC1 hC2 => ?_⟩
  · rw [List.pairwise_cons, List.pairwise_cons] at h3 ⊢
    refine ⟨fun e he => ?_, fun e he => h3.1 e (List.mem_cons_of_mem _ he), h3.2.2⟩
    rcases List.mem_cons.1 he with y | y
    · rw [y]; exact fun z => h3.1 e1 List.mem_cons_self z.symm
    · exact h3.2.1 e y
  · obtain ⟨D, a1, a2, a3, a4⟩ := h4 O H nu R c d pre w ms C ti no hD hp cn hR1 hR2 hd hN hC1 (fun i hi hn => hC2 i hi (fun e he => hn e ((mm e).1 he)))
    exact ⟨D, TI_h a1 (fun q => ⟨fun z => z.elim Or.inl (fun ⟨e, h, y⟩ => Or.inr ⟨e, (mm e).1 h, y⟩), fun z => z.elim Or.inl (fun ⟨e, h, y⟩ => Or.inr ⟨e, (mm e).2 h, y⟩)⟩), a2, a3, fun e he => a4 e ((mm e).1 he)⟩
theorem gd_set {l : List Int32} {h i : Nat} (y : Int32) : (l.set h y).getD i 0 = if i = h ∧ h < l.length then y else l.getD i 0 := by
  rw [List.getD_eq_getElem?_getD, List.getD_eq_getElem?_getD, List.getElem?_set]
  by_cases z : h = i
  · rw [if_pos z]
    by_cases y' : h < l.length
    · rw [if_pos y', if_pos ⟨z.symm, y'⟩]; rfl
    · rw [if_neg y', if_neg (fun q => y' q.2), List.getElem?_eq_none (by omega)]
  · rw [if_neg z, if_neg (fun q => z q.1.symm)]
/-- it comes here -/
theorem Ph_fi {h tt : Nat} (k : PKh u p gl Vm ((h, op, tt) :: hl) t cs) (ht : t = tt + (if 6 ≤ op then 1 else 0)) : PKh u p gl Vm hl t (cs.set h (em op (nI (cs.length - h)))) := by
  obtain ⟨h1, h2, h3, h4⟩ := k
  rw [List.pairwise_cons] at h3
  have hh := h2 _ List.mem_cons_self
  have hlt : h < cs.length := hh.1
  have ho : 3 ≤ op ∧ op ≤ 7 := hh.2
  have el : (cs.set h (em op (nI (cs.length - h)))).length = cs.length := List.length_set
  refine ⟨by rw [el]; exact h1, fun e he => by rw [el]; exact h2 e (List.mem_cons_of_mem _ he), h3.2, fun O H nu R c d pre w ms C ti no hD hp cn hR1 hR2 hd hN hC1 hC2 => ?_⟩
  rw [el] at hR1 hd hN hC2 ⊢
  obtain ⟨D, a1, a2, a3, a4⟩ := h4 O H nu R c d pre w ms C ti no hD hp cn hR1 hR2 hd hN hC1 (fun i hi hn => by
    rw [hC2 i hi (fun e he => hn e (List.mem_cons_of_mem _ he)), gd_set, if_neg (fun z => hn _ List.mem_cons_self z.1.symm)])
  have ch : C (tcN c + h) = em op (nI (cs.length - h)) := by
    rw [hC2 h hlt (fun e he z => h3.1 e he z.symm), gd_set, if_pos ⟨rfl, hlt⟩]
  have nO := noO_ge ti no
  have dd := dd_of ti a2
  obtain ⟨k1, k2⟩ := a4 _ List.mem_cons_self
  have k1' : D (tcN c + h) = some (u, d + tt + (if op = 3 then 0 else 1), sh pre w ms, R - h) := k1
  have k2' : ¬ op = 3 → D (tcN c + h + 1) = some (u, d + tt, sh pre w ms, R - h - 1) := k2
  have cn3 : CnC O u p gl Vm nu (mkc c C (tcN c + cs.length) D) w ms := CnC_k cn dd
  have t36 : tcN c + cs.length ≤ 36864 := hN
  have tg : uN (nI (tcN c + h) + nI (cs.length - h)) = tcN c + cs.length := by
    rw [u_add (by rw [u_n (by omega), u_n (by omega)]; omega), u_n (by omega), u_n (by omega)]
    omega
  have z := OKq_of (O := O) (nu := nu) (c := mkc c C (tcN c + cs.length) D) (pc := tcN c + h) (ln := 1) (R := R - h) (x := nI (cs.length - h)) (op := op) k1' (nO _ (Nat.le_add_right _ _)) cn.2.1 (by show tcN c + h + 1 ≤ tcN c + cs.length; omega) (by omega) (by omega) (Nat.le_refl _) (by show C (tcN c + h) &&& 255 = _; rw [ch]; exact em_lo (by omega)) (by show C (tcN c + h) >>> ((8 : Int32) &&& 31) = _; rw [ch]; exact em_hi (by omega) (Sm3_n (by omega))) (fun c' a hc ro => OKI_1 ⟨by omega, by omega⟩ (by
    refine ⟨fun z => absurd z (by omega), fun z => ?_, fun z => ?_, fun z => ?_, fun z => absurd z (by omega)⟩
    · rw [if_pos z, tg]
      rw [if_neg (by omega)] at ht
      rw [ht] at a3
      exact it_N a cn3 hp a3 (nO _ (Nat.le_add_right _ _)) (by omega)
    · rw [if_neg (by omega)] at ht
      rw [ht] at a3
      refine ⟨d + tt, by rw [if_neg (by omega)], it_N a cn3 hp (k2' (by omega)) (nO _ (by omega)) (by omega), ?_⟩
      rw [tg]
      exact it_N a cn3 hp a3 (nO _ (Nat.le_add_right _ _)) (by omega)
    · rw [if_pos (by omega)] at ht
      rw [ht] at a3
      refine ⟨d + tt, by rw [if_neg (by omega)], it_N a cn3 hp (k2' (by omega)) (nO _ (by omega)) (by omega), ?_⟩
      rw [tg]
      exact it_S a cn3 hp a3 (nO _ (Nat.le_add_right _ _)) (by omega)))
  refine ⟨D, ?_, a2, a3, fun e he => a4 e (List.mem_cons_of_mem _ he)⟩
  refine TI_fi (h := tcN c + h) (ln := 1) a1 (Nat.le_refl _) (Or.inr ⟨_, List.mem_cons_self, rfl⟩) (nO _ (Nat.le_add_right _ _)) (by show tcN c + h + 1 ≤ tcN c + cs.length; omega) (fun _ _ => rfl) rfl k1' (fun i y i1 i2 => absurd i1 (by omega)) (fun h' hh' => ?_) (fun q => ?_) ?_
  · omega
  · constructor
    · rintro (y | ⟨e, he, hq⟩)
      · refine ⟨Or.inl y, fun e => ?_⟩
        have := ti.2.2.1 q y
        omega
      · refine ⟨Or.inr ⟨e, List.mem_cons_of_mem _ he, hq⟩, fun e' => h3.1 e he ?_⟩
        show h = e.1
        omega
    · rintro ⟨y | ⟨e, he, hq⟩, n⟩
      · exact Or.inl y
      · rcases List.mem_cons.1 he with y | y
        · rw [y] at hq; exact absurd hq n
        · exact Or.inr ⟨e, y, hq⟩
  · intro c' a hc ro
    exact z c' a hc (fun p x o e => Nat.lt_of_lt_of_le (ro p x o e) (by omega))
end CUT
