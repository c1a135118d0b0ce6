/-! Statements (reference): what counts, the totals; what a statement's pieces leave. -/
/-- a sum -/
def suN (f : Nat → Nat) : Nat → Nat
  | 0 => 0
  | n + 1 => suN f n + f n
theorem suN_c {f g : Nat → Nat} : ∀ {n : Nat}, (∀ i, i < n → f i = g i) → suN f n = suN g n
  | 0, _ => rfl
  | n + 1, h => by
    show suN f n + f n = suN g n + g n
    rw [suN_c (fun i hi => h i (by omega)), h n (by omega)]
theorem suN_1 {f g : Nat → Nat} {i : Nat} : ∀ {n : Nat}, i < n → (∀ j, j < n → j ≠ i → f j = g j) → suN g n + f i = suN f n + g i
  | 0, h, _ => by omega
  | n + 1, hi, h => by
    show suN g n + g n + f i = suN f n + f n + g i
    by_cases e : i = n
    · subst e
      rw [suN_c (f := f) (g := g) (fun j hj => h j (by omega) (by omega))]; omega
    · have := suN_1 (f := f) (g := g) (i := i) (n := n) (by omega) (fun j hj hn => h j (by omega) hn)
      rw [h n (by omega) (by omega)]; omega
theorem suN_le {f : Nat → Nat} {i : Nat} : ∀ {n : Nat}, i < n → f i ≤ suN f n
  | 0, h => by omega
  | n + 1, hi => by
    show f i ≤ suN f n + f n
    by_cases e : i = n
    · subst e; omega
    · have := suN_le (f := f) (i := i) (n := n) (by omega); omega
theorem suN_0 {f : Nat → Nat} : ∀ {n : Nat}, (∀ i, i < n → f i = 0) → suN f n = 0
  | 0, _ => rfl
  | n + 1, h => by
    show suN f n + f n = 0
    rw [suN_0 (fun i hi => h i (by omega)), h n (by omega)]
/-- places of a row that don't count -/
def NUa (K A : Nat → Int32) (b i : Nat) : Prop := (4 ≤ i ∧ i < 64 ∧ K (i - 4) = 0) ∨ (214 ≤ i ∧ i < 3214 ∧ K (60 * (1 + (A (b + (65 + 3 * ((i - 214) / 60)))).toNatClampNeg) + (i - 214) % 60) = 0)
/-- places that count -/
def CtA (K A : Nat → Int32) (b i : Nat) : Prop := StI A b (b + i) ∧ ¬ NUa K A b i
noncomputable def szP (H K A : Nat → Int32) (b i : Nat) : Nat := @ite Nat (CtA K A b i) (Classical.propDecidable (CtA K A b i)) (szN H (A (b + i)).toNatClampNeg) 0
noncomputable def SzS (H K A : Nat → Int32) (b : Nat) : Nat := suN (szP H K A b) 11514
/-- the total of a state, of its points -/
noncomputable def StS (σ : MS) : Nat := SzS (σ.2.2 28) (kC σ) (σ.2.2 30) 0
noncomputable def PtS (σ : MS) (p : Nat) : Nat := SzS (σ.2.2 28) (kC σ) (σ.2.2 31) (11514 * p)
/-- calls of a row -/
def CWa (A : Nat → Int32) (b : Nat) : Prop := ∃ c, A (b + 1) = nI c ∧ c ≤ 50 ∧ ∀ i, i < c → ∃ pr, A (b + (65 + 3 * i)) = nI pr ∧ pr < 41
theorem CWa_c {A A' : Nat → Int32} {b b' : Nat} (h : CWa A b) (h1 : A' (b' + 1) = A (b + 1)) (hh : ∀ j, 65 ≤ j → j < 214 → A' (b' + j) = A (b + j)) : CWa A' b' := by
  obtain ⟨c, c1, c2, c3⟩ := h
  refine ⟨c, h1.trans c1, c2, fun i hi => ?_⟩
  rw [hh (65 + 3 * i) (by omega) (by omega)]; exact c3 i hi
/-- the iterators of a point are good -/
def ItP (σ : MS) (p : Nat) : Prop := ∃ q, σ.2.2 31 (11514 * p + 3) = nI q ∧ q ≤ 3100 ∧ ∀ i, i < q → 4 ≤ (szV σ 31 (11514 * p + (5314 + i))).2.1 ∧ ∃ m k, (szV σ 31 (11514 * p + (5314 + i))).2.2 = nI m ∧ m ≤ 3996 ∧ σ.2.2 31 (11514 * p + (8414 + i)) = nI k ∧ k ≤ m
theorem ItP_c {σ ρ : MS} {p : Nat} (h28 : ρ.2.2 28 = σ.2.2 28) (h31 : ∀ j, j < 11514 → ρ.2.2 31 (11514 * p + j) = σ.2.2 31 (11514 * p + j)) (h : ItP σ p) : ItP ρ p := by
  obtain ⟨q, q1, q2, q3⟩ := h
  refine ⟨q, (h31 3 (by omega)).trans q1, q2, fun i hi => ?_⟩
  have e : szV ρ 31 (11514 * p + (5314 + i)) = szV σ 31 (11514 * p + (5314 + i)) := by unfold szV; rw [h28, h31 (5314 + i) (by omega)]
  rw [e, h31 (8414 + i) (by omega)]; exact q3 i hi
/-- what doesn't count is om -/
def NUo (P : Nat) (σ : MS) : Prop := (∀ i, StI (σ.2.2 30) 0 i → NUa (kC σ) (σ.2.2 30) 0 i → σ.2.2 30 i = 0) ∧ (∀ p, p < P → ∀ i, StI (σ.2.2 31) (11514 * p) (11514 * p + i) → NUa (kC σ) (σ.2.2 31) (11514 * p) i → σ.2.2 31 (11514 * p + i) = 0) ∧ (∀ i, i < 1380 → σ.2.2 33 i = 0) ∧ CWa (σ.2.2 30) 0 ∧ ∀ p, p < P → CWa (σ.2.2 31) (11514 * p) ∧ ItP σ p
/-- the totals are what they are said to be -/
def UT (σ : MS) : Prop := σ.1 64 = nI (StS σ) ∧ ∃ P, σ.1 63 = nI P ∧ P ≤ 20 ∧ σ.1 65 = nI (suN (PtS σ) P) ∧ (∀ p, p < P → σ.2.2 32 p = nI (PtS σ p)) ∧ StS σ + suN (PtS σ) P ≤ 40000 ∧ NUo P σ
section UTS
variable {σ ρ τ : MS} {N : Nat → Nat → Prop}
theorem NU_a {i : Nat} : NU σ 30 i ↔ NUa (kC σ) (σ.2.2 30) 0 i := by
  unfold NU NUa
  rw [Nat.zero_add]
  constructor
  · rintro (z | z)
    · omega
    · exact z.2
  · intro z; exact Or.inr ⟨rfl, z⟩
theorem StI_c {A A' : Nat → Int32} {b i : Nat} (h1 : A' (b + 1) = A (b + 1)) (h3 : A' (b + 3) = A (b + 3)) : StI A' b i ↔ StI A b i := by unfold StI; rw [h1, h3]
theorem NUa_c {K A A' : Nat → Int32} {b i : Nat} (h : ∀ j, 65 ≤ j → j < 214 → A' (b + j) = A (b + j)) : NUa K A' b i ↔ NUa K A b i := by
  unfold NUa
  by_cases c : 214 ≤ i ∧ i < 3214
  · rw [h (65 + 3 * ((i - 214) / 60)) (by omega) (by omega)]
  · constructor
    · rintro (z | z)
      · exact Or.inl z
      · exact absurd ⟨z.1, z.2.1⟩ c
    · rintro (z | z)
      · exact Or.inl z
      · exact absurd ⟨z.1, z.2.1⟩ c
/-- rows that have the same heads: the sums are alike, if sizes are -/
theorem szP_c {H H' K A A' : Nat → Int32} {b b' i : Nat} (h1 : A' (b' + 1) = A (b + 1)) (h3 : A' (b' + 3) = A (b + 3)) (hh : ∀ j, 65 ≤ j → j < 214 → A' (b' + j) = A (b + j)) (hs : CtA K A b i → szN H' (A' (b' + i)).toNatClampNeg = szN H (A (b + i)).toNatClampNeg) : (CtA K A' b' i ↔ CtA K A b i) ∧ szP H' K A' b' i = szP H K A b i := by
  have e1 : StI A' b' (b' + i) ↔ StI A b (b + i) := by
    unfold StI; rw [h1, h3]
    omega
  have e2 : NUa K A' b' i ↔ NUa K A b i := by
    unfold NUa
    by_cases c : 214 ≤ i ∧ i < 3214
    · rw [hh (65 + 3 * ((i - 214) / 60)) (by omega) (by omega)]
    · constructor
      · rintro (z | z)
        · exact Or.inl z
        · exact absurd ⟨z.1, z.2.1⟩ c
      · rintro (z | z)
        · exact Or.inl z
        · exact absurd ⟨z.1, z.2.1⟩ c
  have e : CtA K A' b' i ↔ CtA K A b i := by unfold CtA; rw [e1, e2]
  refine ⟨e, ?_⟩
  unfold szP
  by_cases c : CtA K A b i
  · rw [if_pos c, if_pos (e.mpr c), hs c]
  · rw [if_neg c, if_neg (fun z => c (e.mp z))]
/-- an evaluation keeps the totals -/
theorem UT_fe (hF : FE σ ρ) (h : UT σ) : UT ρ := by
  have hB := FEn_b hF
  obtain ⟨b63, b20, b30, b31⟩ := hB
  obtain ⟨h64, P, h63, hP, h65, h32, hle, o1, o2, o3, o4, o5⟩ := h
  have K : kC ρ = kC σ := funext b20
  have kp := hF.2.2.2
  have sc : ∀ j, AlS j → j ≠ 57 → j ≠ 59 → j ≠ 95 → ρ.1 j = σ.1 j := hF.1
  have sS : StS ρ = StS σ := by
    unfold StS SzS
    rw [K]
    refine suN_c (fun i hi => (szP_c (b30 1 (by unfold Zn; omega)) (b30 3 (by unfold Zn; omega)) (fun j h1 h2 => b30 (0 + j) (by unfold Zn; omega)) (fun c => ?_)).2)
    rw [Nat.zero_add]
    have c1 : StI (σ.2.2 30) 0 i := by have := c.1; rw [Nat.zero_add] at this; exact this
    rcases kp 30 i (Or.inl ⟨rfl, c1⟩) (fun z => z) with z | z
    · exact congrArg (fun (z : Nat × Nat × Int32) => z.1) z.1
    · exact absurd (NU_a.mp z.2) c.2
  have zn31 : ∀ p j, j < 11514 → j < 4 ∨ (64 ≤ j ∧ j < 214) → ¬ Zn 31 (11514 * p + j) := fun p j hj h => by unfold Zn; omega
  have i31 : ∀ p i, p < P → StI (σ.2.2 31) (11514 * p) (11514 * p + i) → szV ρ 31 (11514 * p + i) = szV σ 31 (11514 * p + i) ∧ (σ.2.2 31 (11514 * p + i) = 0 → ρ.2.2 31 (11514 * p + i) = 0) := fun p i hp c => by
    rcases kp 31 (11514 * p + i) (Or.inr (Or.inl ⟨rfl, p, by rw [h63, n_cl (by omega)]; exact hp, c⟩)) (fun z => z) with z | z
    · exact ⟨z.1, z.2.1⟩
    · exact absurd z.2 (by unfold NU; omega)
  have c31 : ∀ p i, p < P → (CtA (kC σ) (ρ.2.2 31) (11514 * p) i ↔ CtA (kC σ) (σ.2.2 31) (11514 * p) i) ∧ szP (ρ.2.2 28) (kC σ) (ρ.2.2 31) (11514 * p) i = szP (σ.2.2 28) (kC σ) (σ.2.2 31) (11514 * p) i := fun p i hp => szP_c (b31 _ (zn31 p 1 (by omega) (by omega))) (b31 _ (zn31 p 3 (by omega) (by omega))) (fun j h1 h2 => b31 _ (zn31 p j (by omega) (by omega))) (fun c => congrArg (fun (z : Nat × Nat × Int32) => z.1) (i31 p i hp c.1).1)
  have sP : ∀ p, p < P → PtS ρ p = PtS σ p := fun p hp => by
    unfold PtS SzS
    rw [K]
    exact suN_c (fun i hi => (c31 p i hp).2)
  have sP' : suN (PtS ρ) P = suN (PtS σ) P := suN_c sP
  refine ⟨?_, P, (sc 63 (by unfold AlS; omega) (by decide) (by decide) (by decide)).trans h63, hP, ?_, fun p hp => ?_, ?_, fun i c n => ?_, fun p hp i c n => ?_, fun i hi => ?_, CWa_c o4 (b30 1 (by unfold Zn; omega)) (fun j h1 h2 => b30 (0 + j) (by unfold Zn; omega)), fun p hp => ⟨CWa_c (o5 p hp).1 (b31 _ (zn31 p 1 (by omega) (by omega))) (fun j h1 h2 => b31 _ (zn31 p j (by omega) (by omega))), ?_⟩⟩
  · rw [sS, sc 64 (by unfold AlS; omega) (by decide) (by decide) (by decide)]; exact h64
  · rw [sP', sc 65 (by unfold AlS; omega) (by decide) (by decide) (by decide)]; exact h65
  · rw [sP p hp, hF.2.1 32 p (by unfold AlR; omega) (by unfold Zn; omega) (by omega)]; exact h32 p hp
  · rw [sS, sP']; exact hle
  · have c' : StI (σ.2.2 30) 0 i := (StI_c (b30 1 (by unfold Zn; omega)) (b30 3 (by unfold Zn; omega))).mp c
    rw [K] at n
    have n' : NUa (kC σ) (σ.2.2 30) 0 i := (NUa_c (fun j h1 h2 => b30 (0 + j) (by unfold Zn; omega))).mp n
    rcases kp 30 i (Or.inl ⟨rfl, c'⟩) (fun z => z) with z | z
    · exact z.2.1 (o1 i c' n')
    · exact z.1
  · have c' : StI (σ.2.2 31) (11514 * p) (11514 * p + i) := (StI_c (b31 _ (zn31 p 1 (by omega) (by omega))) (b31 _ (zn31 p 3 (by omega) (by omega)))).mp c
    rw [K] at n
    have n' : NUa (kC σ) (σ.2.2 31) (11514 * p) i := (NUa_c (fun j h1 h2 => b31 _ (zn31 p j (by omega) (by omega)))).mp n
    exact (i31 p i hp c').2 (o2 p hp i c' n')
  · rcases kp 33 i (Or.inr (Or.inr ⟨rfl, hi⟩)) (fun z => z) with z | z
    · exact z.2.1 (o3 i hi)
    · exact z.1
  · obtain ⟨q, q1, q2, q3⟩ := (o5 p hp).2
    refine ⟨q, (b31 _ (zn31 p 3 (by omega) (by omega))).trans q1, q2, fun i hi => ?_⟩
    have c : StI (σ.2.2 31) (11514 * p) (11514 * p + (5314 + i)) := by
      unfold StI; rw [q1, n_cl (p := q) (by omega)]; omega
    rw [(i31 p (5314 + i) hp c).1, b31 (11514 * p + (8414 + i)) (by unfold Zn; omega)]; exact q3 i hi
/-- what a piece of a statement leaves as it was -/
def FSt (σ ρ : MS) : Prop := (∀ j, AlS j → j ≠ 57 → j ≠ 59 → j ≠ 95 → j ≠ 64 → ρ.1 j = σ.1 j) ∧ (∀ a i, AlR a → ¬ Zn a i → ¬ ((a = 35 ∨ a = 50) ∧ (σ.1 72).toNatClampNeg ≤ i) → ρ.2.2 a i = σ.2.2 a i) ∧ ρ.2.2 2 = σ.2.2 2 ∧ ∀ i, 5314 ≤ i → StI (σ.2.2 30) 0 i → szV ρ 30 i = szV σ 30 i
theorem FS_fe (h : FE σ ρ) : FSt σ ρ := by
  refine ⟨fun j a b c d _ => h.1 j a b c d, h.2.1, h.2.2.1, fun i hi c => ?_⟩
  rcases h.2.2.2 30 i (Or.inl ⟨rfl, c⟩) (fun z => z) with z | z
  · exact z.1
  · exact absurd z.2 (by unfold NU; omega)
theorem FS_rf : FSt σ σ := FS_fe FE_rf
theorem FS_tr (a : FSt σ τ) (b : FSt τ ρ) : FSt σ ρ := by
  have e : τ.1 72 = σ.1 72 := a.1 72 (by unfold AlS; omega) (by decide) (by decide) (by decide) (by decide)
  refine ⟨fun j h1 h2 h3 h4 h5 => (b.1 j h1 h2 h3 h4 h5).trans (a.1 j h1 h2 h3 h4 h5), fun x i h1 h2 h3 => ?_, b.2.2.1.trans a.2.2.1, fun i hi c => ?_⟩
  · rw [b.2.1 x i h1 h2 (by rw [e]; exact h3), a.2.1 x i h1 h2 h3]
  · rw [b.2.2.2 i hi ((StI_c (a.2.1 30 1 (by unfold AlR; omega) (by unfold Zn; omega) (by omega)) (a.2.1 30 3 (by unfold AlR; omega) (by unfold Zn; omega) (by omega))).mpr c), a.2.2.2 i hi c]
theorem Sc0_fs {T : Nat → Nat → Int32} {FN : Nat → Nat → Prop} {lc : Nat → Prop} (h : Sc0 T FN lc σ) (hF : FSt σ ρ) : Sc0 T FN lc ρ := ⟨STb_b h.1 (fun j hj => hF.1 j (by unfold AlS; omega) (by omega) (by omega) (by omega) (by omega)) (fun a i q => hF.2.1 a i (by unfold AlR; omega) (by unfold Zn; omega) (by omega)), Cx_b h.2 (fun j hj => hF.1 j (by unfold AlS; omega) (by omega) (by omega) (by omega) (by omega)) (kC_c (fun i => hF.2.1 20 i (by unfold AlR; omega) (by unfold Zn; omega) (by omega)) (fun i _ => hF.2.1 21 i (by unfold AlR; omega) (by unfold Zn; omega) (by omega)) (hF.1 30 (by unfold AlS; omega) (by omega) (by omega) (by omega) (by omega))) (fun i hz _ => hF.2.1 30 i (by unfold AlR; omega) hz (by omega))⟩
end UTS
