section JnS196
/-! Two runs that end, side by side (reference): rules. -/
/-- from some fuel on both give one answer each, and Q holds of the two -/
def T2 (g1 g2 : Nat → Option (Int32 × MS)) (Q : Int32 × MS → Int32 × MS → Prop) : Prop := ∃ r1 r2 N, (∀ k, N ≤ k → g1 k = some r1) ∧ (∀ k, N ≤ k → g2 k = some r2) ∧ Q r1 r2
section T2R
variable {g1 g2 h1 h2 : Nat → Option (Int32 × MS)} {Q P : Int32 × MS → Int32 × MS → Prop}
theorem T2_of {P1 P2 : Int32 × MS → Prop} (t1 : Tm g1 P1) (t2 : Tm g2 P2) (t : ∀ n, Pm n g1 g2 Q) : T2 g1 g2 (fun r1 r2 => Q r1 r2 ∧ P1 r1 ∧ P2 r2) := by
  obtain ⟨r1, N1, a1, b1⟩ := t1
  obtain ⟨r2, N2, a2, b2⟩ := t2
  refine ⟨r1, r2, N1 + N2, fun k hk => a1 k (by omega), fun k hk => a2 k (by omega), ?_, b1, b2⟩
  exact t (N1 + N2) (N1 + N2) (Nat.le_refl _) r1 r2 (a1 _ (by omega)) (a2 _ (by omega))
theorem T2_t {P1 P2 : Int32 × MS → Prop} (t1 : Tm g1 P1) (t2 : Tm g2 P2) : T2 g1 g2 (fun r1 r2 => P1 r1 ∧ P2 r2) := by
  obtain ⟨r1, N1, a1, b1⟩ := t1
  obtain ⟨r2, N2, a2, b2⟩ := t2
  exact ⟨r1, r2, N1 + N2, fun k hk => a1 k (by omega), fun k hk => a2 k (by omega), b1, b2⟩
theorem T2_1 (t : T2 g1 g2 Q) : Tm g1 (fun r => ∃ r2, Q r r2) := by
  obtain ⟨r1, r2, N, a1, a2, b⟩ := t
  exact ⟨r1, N, a1, r2, b⟩
theorem T2_mono (t : T2 g1 g2 P) (h : ∀ r1 r2, P r1 r2 → Q r1 r2) : T2 g1 g2 Q := by
  obtain ⟨r1, r2, N, a1, a2, b⟩ := t
  exact ⟨r1, r2, N, a1, a2, h r1 r2 b⟩
theorem T2_suc (e1 : ∀ k, g1 (k + 1) = h1 k) (e2 : ∀ k, g2 (k + 1) = h2 k) (t : T2 h1 h2 Q) : T2 g1 g2 Q := by
  obtain ⟨r1, r2, N, a1, a2, b⟩ := t
  refine ⟨r1, r2, N + 1, fun k hk => ?_, fun k hk => ?_, b⟩
  · obtain ⟨j, rfl⟩ : ∃ j, k = j + 1 := ⟨k - 1, by omega⟩
    rw [e1]; exact a1 j (by omega)
  · obtain ⟨j, rfl⟩ : ∃ j, k = j + 1 := ⟨k - 1, by omega⟩
    rw [e2]; exact a2 j (by omega)
theorem T2_some {r1 r2 : Int32 × MS} (h : Q r1 r2) : T2 (fun _ => some r1) (fun _ => some r2) Q := ⟨r1, r2, 0, fun _ _ => rfl, fun _ _ => rfl, h⟩
theorem T2_ite {c1 c2 : Prop} {d1 : Decidable c1} {d2 : Decidable c2} {a1 a2 b1 b2 : Nat → Option (Int32 × MS)} (hc : c1 ↔ c2) (t : c1 → c2 → T2 a1 a2 Q) (u : ¬ c1 → ¬ c2 → T2 b1 b2 Q) : T2 (fun k => if c1 then a1 k else b1 k) (fun k => if c2 then a2 k else b2 k) Q := by
  by_cases h : c1
  · have h' := hc.mp h
    have e1 : (fun k => if c1 then a1 k else b1 k) = a1 := by funext k; rw [if_pos h]
    have e2 : (fun k => if c2 then a2 k else b2 k) = a2 := by funext k; rw [if_pos h']
    rw [e1, e2]; exact t h h'
  · have h' : ¬ c2 := fun z => h (hc.mpr z)
    have e1 : (fun k => if c1 then a1 k else b1 k) = b1 := by funext k; rw [if_neg h]
    have e2 : (fun k => if c2 then a2 k else b2 k) = b2 := by funext k; rw [if_neg h']
    rw [e1, e2]; exact u h h'
theorem T2_chk {c1 c2 : Prop} {d1 : Decidable c1} {d2 : Decidable c2} {a1 a2 : Nat → Option (Int32 × MS)} (z1 : c1) (z2 : c2) (t : T2 a1 a2 Q) : T2 (fun k => if c1 then a1 k else none) (fun k => if c2 then a2 k else none) Q := by
  have e1 : (fun k => if c1 then a1 k else none) = a1 := by funext k; rw [if_pos z1]
  have e2 : (fun k => if c2 then a2 k else none) = a2 := by funext k; rw [if_pos z2]
  rw [e1, e2]; exact t
theorem T2_ob {x1 x2 : Nat → Option (Int32 × MS)} {f1 f2 : Nat → Int32 × MS → Option (Int32 × MS)} (t : T2 x1 x2 P) (h : ∀ r1 r2, P r1 r2 → T2 (fun k => f1 k r1) (fun k => f2 k r2) Q) : T2 (fun k => ob (x1 k) (f1 k)) (fun k => ob (x2 k) (f2 k)) Q := by
  obtain ⟨r1, r2, N, a1, a2, b⟩ := t
  obtain ⟨s1, s2, M, c1, c2, d⟩ := h r1 r2 b
  refine ⟨s1, s2, N + M, fun k hk => ?_, fun k hk => ?_, d⟩
  · show ob (x1 k) (f1 k) = _
    rw [a1 k (by omega)]; exact c1 k (by omega)
  · show ob (x2 k) (f2 k) = _
    rw [a2 k (by omega)]; exact c2 k (by omega)
theorem T2_od {e : Nat} {f1 f2 : Nat → Nat → Option (Int32 × MS)} (t : T2 (fun k => f1 k e) (fun k => f2 k e) Q) : T2 (fun k => od (e + 1) (fun d => f1 k d)) (fun k => od (e + 1) (fun d => f2 k d)) Q := t
end T2R
/-! Two states alike: all that a run reads. -/
/-- numbers of a run -/
def AlS (j : Nat) : Prop := j = 57 ∨ j = 59 ∨ (63 ≤ j ∧ j ≤ 69) ∨ j = 72 ∨ j = 95 ∨ j = 97 ∨ (102 ≤ j ∧ j ≤ 104) ∨ j = 106 ∨ j = 110 ∨ j = 22 ∨ j = 24 ∨ j = 30 ∨ j = 44
/-- rows of a run -/
def AlR (a : Nat) : Prop := (4 ≤ a ∧ a ≤ 12) ∨ (17 ≤ a ∧ a ≤ 21) ∨ (30 ≤ a ∧ a ≤ 35) ∨ a = 50
/-- places for values -/
def Zn (a i : Nat) : Prop := a = 33 ∨ a = 34 ∨ (a = 30 ∧ ((4 ≤ i ∧ i < 64) ∨ (214 ≤ i ∧ i < 3214) ∨ (5314 ≤ i ∧ i < 8414))) ∨ (a = 31 ∧ ((4 ≤ i % 11514 ∧ i % 11514 < 64) ∨ (214 ≤ i % 11514 ∧ i % 11514 < 3214) ∨ (5314 ≤ i % 11514 ∧ i % 11514 < 8414)))
def VwR (a : Nat) : Prop := a = 36 ∨ a = 37 ∨ a = 38 ∨ a = 40
/-- numbers of a state that are not in use: calls, fors, iterators beyond those that are open -/
def IaN (A : Nat → Int32) (b j : Nat) : Prop := (64 ≤ j ∧ j < 3214 ∧ 64 + 3 * (A (b + 1)).toNatClampNeg ≤ j) ∨ (3214 ≤ j ∧ j < 8414 ∧ 3214 + 2 * (A (b + 2)).toNatClampNeg ≤ j) ∨ (8414 ≤ j ∧ 8414 + (A (b + 3)).toNatClampNeg ≤ j)
/-- slots that are told of a unit: none beyond the units there are (c) -/
def hdU (c : Int32) (H : Nat → Int32) (u : Nat) : Nat := if u ≤ c.toNatClampNeg then (H u).toNatClampNeg else 0
theorem hdU_h {c : Int32} {H H' : Nat → Int32} {u : Nat} (h : H' u = H u) : hdU c H' u = hdU c H u := by unfold hdU; rw [h]
/-- tables beyond the callables (c), the statements (s), the slots told (H) -/
def StU (c s : Int32) (H : Nat → Int32) (a i : Nat) : Prop := ((a = 10 ∨ a = 11) ∧ s.toNatClampNeg ≤ i) ∨ ((a = 17 ∨ a = 18) ∧ c.toNatClampNeg ≤ i) ∨ a = 19 ∨ (a = 21 ∧ (42 ≤ i ∨ c.toNatClampNeg < i)) ∨ (a = 20 ∧ (2520 ≤ i ∨ hdU c H (i / 60) ≤ i % 60))
theorem StU_h {c s : Int32} {H H' : Nat → Int32} (h : ∀ u, u < 42 → hdU c H' u = hdU c H u) (a i : Nat) : StU c s H' a i ↔ StU c s H a i := by
  have e : (2520 ≤ i ∨ hdU c H' (i / 60) ≤ i % 60) ↔ (2520 ≤ i ∨ hdU c H (i / 60) ≤ i % 60) := by
    by_cases e : 2520 ≤ i
    · exact ⟨fun _ => Or.inl e, fun _ => Or.inl e⟩
    · rw [h (i / 60) (by omega)]
  unfold StU; rw [e]
/-- what is not in use: of the state, of points, of iterators; nodes and pooled characters beyond those that are laid -/
def InA (σ : MS) (a i : Nat) : Prop := (a = 30 ∧ IaN (σ.2.2 30) 0 i) ∨ (a = 31 ∧ ((σ.1 63).toNatClampNeg ≤ i / 11514 ∨ IaN (σ.2.2 31) (11514 * (i / 11514)) (i % 11514))) ∨ (a = 32 ∧ (σ.1 63).toNatClampNeg ≤ i) ∨ (a = 35 ∧ (σ.1 72).toNatClampNeg ≤ i) ∨ a = 50 ∨ (4 ≤ a ∧ a ≤ 9 ∧ ((σ.1 22).toNatClampNeg ≤ i ∨ i = 0)) ∨ (a = 12 ∧ (σ.1 24).toNatClampNeg ≤ i) ∨ (10 ≤ a ∧ a ≤ 21 ∧ StU (σ.1 30) (σ.1 44) (σ.2.2 21) a i)
theorem InA_t {σ : MS} {a i : Nat} (h : a = 17 ∨ a = 18) (hi : i < (σ.1 30).toNatClampNeg) : ¬ InA σ a i := by unfold InA StU; omega
theorem InA_10 {σ : MS} {a i : Nat} (h : a = 10 ∨ a = 11) (hi : i < (σ.1 44).toNatClampNeg) : ¬ InA σ a i := by unfold InA StU; omega
theorem InA_20 {σ : MS} {i : Nat} (h : i < 2520) (h' : i % 60 < hdU (σ.1 30) (σ.2.2 21) (i / 60)) : ¬ InA σ 20 i := by unfold InA StU; omega
theorem InA_n {σ : MS} {a i : Nat} (h : 4 ≤ a ∧ a ≤ 9) (hi : 1 ≤ i ∧ i < (σ.1 22).toNatClampNeg) : ¬ InA σ a i := by unfold InA; omega
theorem InA_12 {σ : MS} {i : Nat} (hi : i < (σ.1 24).toNatClampNeg) : ¬ InA σ 12 i := by unfold InA StU; omega
theorem InA_21 {σ : MS} {i : Nat} (hi : i < 42 ∧ i ≤ (σ.1 30).toNatClampNeg) : ¬ InA σ 21 i := by unfold InA StU; omega
theorem InA_4 {σ : MS} {i : Nat} (h : i < 4) : ¬ InA σ 30 i := by unfold InA IaN; omega
theorem InA_p {σ : MS} {p j : Nat} (hp : p < (σ.1 63).toNatClampNeg) (h : j < 4) : ¬ InA σ 31 (11514 * p + j) := by
  have e1 : (11514 * p + j) / 11514 = p := by omega
  have e2 : (11514 * p + j) % 11514 = j := by omega
  unfold InA IaN; rw [e1, e2]; omega
theorem InA_cl {σ : MS} {c i : Nat} (h1 : σ.2.2 30 1 = nI c) (hc : c ≤ 50) (h : 64 ≤ i ∧ i < 64 + 3 * c) : ¬ InA σ 30 i := by
  unfold InA IaN; rw [Nat.zero_add, h1, n_cl (p := c) (by omega)]; omega
theorem InA_fo {σ : MS} {f i : Nat} (h2 : σ.2.2 30 2 = nI f) (hf : f ≤ 2000) (h : 3214 ≤ i ∧ i < 3214 + 2 * f ∧ i < 8414) : ¬ InA σ 30 i := by
  unfold InA IaN; rw [Nat.zero_add, Nat.zero_add, h2, n_cl (p := f) (by omega)]; omega
theorem InA_it {σ : MS} {q i : Nat} (h3 : σ.2.2 30 3 = nI q) (hq : q ≤ 4000) (h : 8414 ≤ i ∧ i < 8414 + q) : ¬ InA σ 30 i := by
  unfold InA IaN; rw [Nat.zero_add, Nat.zero_add, Nat.zero_add, h3, n_cl (p := q) (by omega)]; omega
theorem InA_c {σ ρ : MS} (h63 : ρ.1 63 = σ.1 63) (h72 : ρ.1 72 = σ.1 72) (h22 : ρ.1 22 = σ.1 22) (h24 : ρ.1 24 = σ.1 24) (hc : ρ.1 30 = σ.1 30) (hs : ρ.1 44 = σ.1 44) (h21 : ∀ u, u < 42 → hdU (σ.1 30) (ρ.2.2 21) u = hdU (σ.1 30) (σ.2.2 21) u) (h30 : ∀ j, j = 1 ∨ j = 2 ∨ j = 3 → ρ.2.2 30 j = σ.2.2 30 j) (h31 : ∀ p, p < (σ.1 63).toNatClampNeg → ∀ j, j = 1 ∨ j = 2 ∨ j = 3 → ρ.2.2 31 (11514 * p + j) = σ.2.2 31 (11514 * p + j)) (a i : Nat) : InA ρ a i ↔ InA σ a i := by
  unfold InA IaN
  rw [h63, h72, h22, h24, hc, hs, StU_h h21, Nat.zero_add, Nat.zero_add, Nat.zero_add, h30 1 (by omega), h30 2 (by omega), h30 3 (by omega)]
  by_cases c : i / 11514 < (σ.1 63).toNatClampNeg
  · rw [h31 _ c 1 (by omega), h31 _ c 2 (by omega), h31 _ c 3 (by omega)]
  · have c' : (σ.1 63).toNatClampNeg ≤ i / 11514 := by omega
    constructor
    · rintro (z | z | z)
      · exact Or.inl z
      · exact Or.inr (Or.inl ⟨z.1, Or.inl c'⟩)
      · exact Or.inr (Or.inr z)
    · rintro (z | z | z)
      · exact Or.inl z
      · exact Or.inr (Or.inl ⟨z.1, Or.inl c'⟩)
      · exact Or.inr (Or.inr z)
/-- alike: values hold the same, all else that is in use is the same; views are left out -/
def RA (t : Nat) (g1 g2 : Nat → Prop) (σ1 σ2 : MS) : Prop :=
  (∀ a i, RtP t σ1 a i → ¬ VwR a → VC g1 g2 (σ1.2.2 28) (σ2.2.2 28) (σ1.2.2 a i) (σ2.2.2 a i)) ∧ (∀ a i, AlR a → ¬ Zn a i → ¬ InA σ1 a i → σ1.2.2 a i = σ2.2.2 a i) ∧ (∀ j, AlS j → σ1.1 j = σ2.1 j) ∧ σ1.2.1 96 = σ2.2.1 96
section RAS
variable {g1 g2 g1' g2' : Nat → Prop} {t u : Nat} {σ1 σ2 ρ1 ρ2 : MS}
theorem Zn_rt {σ : MS} {a i : Nat} (hQ : RtQ σ) (hR : RtP t σ a i) (ha : AlR a) : Zn a i := by
  obtain ⟨P, e, h63, hP, h72, he, s30, s31⟩ := hQ
  have z := (RtP_iff h63 hP h72 he a i).mp hR
  rcases z with z | ⟨z, y⟩ | ⟨z, p, hp, y⟩ | z | z | z | z | z | z
  · unfold AlR at ha; omega
  · obtain ⟨c, n, c1, c2, n1, n2⟩ := s30
    have := (StI_iff (A := σ.2.2 30) (b := 0) c1 c2 n1 n2 i).mp y
    unfold Zn; omega
  · obtain ⟨c, n, c1, c2, n1, n2⟩ := s31 p hp
    have := (StI_iff (A := σ.2.2 31) (b := 11514 * p) c1 c2 n1 n2 i).mp y
    unfold Zn; omega
  · unfold Zn; omega
  · unfold Zn; omega
  · unfold AlR at ha; omega
  · unfold AlR at ha; omega
  · unfold AlR at ha; omega
  · unfold AlR at ha; omega
/-- the places of the values are alike -/
theorem RA_rt (hQ1 : RtQ σ1) (hR : RA t g1 g2 σ1 σ2) (u a i : Nat) : RtP u σ2 a i ↔ RtP u σ1 a i := by
  obtain ⟨_, r2, r3, _⟩ := hR
  obtain ⟨P, e, h63, hP, h72, he, s30, s31⟩ := hQ1
  have k63 : σ2.1 63 = nI P := (r3 63 (by unfold AlS; omega)).symm.trans h63
  have k72 : σ2.1 72 = nI e := (r3 72 (by unfold AlS; omega)).symm.trans h72
  rw [RtP_iff k63 hP k72 he, RtP_iff h63 hP h72 he]
  have q1 : σ2.2.2 30 1 = σ1.2.2 30 1 := (r2 30 1 (by unfold AlR; omega) (by unfold Zn; omega) (InA_4 (by omega))).symm
  have q3 : σ2.2.2 30 3 = σ1.2.2 30 3 := (r2 30 3 (by unfold AlR; omega) (by unfold Zn; omega) (InA_4 (by omega))).symm
  have eP : (σ1.1 63).toNatClampNeg = P := by rw [h63, n_cl (p := P) (by omega)]
  have p1 : ∀ p, p < P → σ2.2.2 31 (11514 * p + 1) = σ1.2.2 31 (11514 * p + 1) := fun p hp => (r2 31 _ (by unfold AlR; omega) (by unfold Zn; omega) (InA_p (by omega) (by omega))).symm
  have p3 : ∀ p, p < P → σ2.2.2 31 (11514 * p + 3) = σ1.2.2 31 (11514 * p + 3) := fun p hp => (r2 31 _ (by unfold AlR; omega) (by unfold Zn; omega) (InA_p (by omega) (by omega))).symm
  have x30 : StI (σ2.2.2 30) 0 i ↔ StI (σ1.2.2 30) 0 i := by
    unfold StI
    rw [show (0 + 1) = 1 from rfl, show (0 + 3) = 3 from rfl, q1, q3]
  have x31 : (∃ p, p < P ∧ StI (σ2.2.2 31) (11514 * p) i) ↔ ∃ p, p < P ∧ StI (σ1.2.2 31) (11514 * p) i := by
    constructor
    · rintro ⟨p, y1, y2⟩
      refine ⟨p, y1, ?_⟩
      unfold StI at y2 ⊢
      rw [p1 p y1, p3 p y1] at y2
      exact y2
    · rintro ⟨p, y1, y2⟩
      refine ⟨p, y1, ?_⟩
      unfold StI at y2 ⊢
      rw [p1 p y1, p3 p y1]
      exact y2
  rw [x30, x31]
theorem VC_3 {G1 G2 G3 : Nat → Prop} {H1 H2 H3 : Nat → Int32} {x y z : Int32} (a : VC G1 G2 H1 H2 x y) (b : VC G2 G3 H2 H3 y z) : VC G1 G3 H1 H3 x z := by
  obtain ⟨m, m', q1, q2, q3, q4, q5, q6, q7⟩ := a
  obtain ⟨p, p', r1, r2, r3, r4, r5, r6, r7⟩ := b
  have e : p = m' := (n_eq (by omega) (by omega)).mp (r1.symm.trans q3)
  subst e
  exact ⟨m, p', q1, q2, r3, r4, EVb_tr q5 r5, q6, r7⟩
theorem VC_sy {G1 G2 : Nat → Prop} {H1 H2 : Nat → Int32} {x y : Int32} (a : VC G1 G2 H1 H2 x y) : VC G2 G1 H2 H1 y x := by
  obtain ⟨m, m', q1, q2, q3, q4, q5, q6, q7⟩ := a
  exact ⟨m', m, q3, q4, q1, q2, EVb_sy q5, q7, q6⟩
/-- both go on -/
theorem RA_step (hQ1 : RtQ σ1) (hQ2 : RtQ σ2) (hR : RA t g1 g2 σ1 σ2) (a : EO t g1 σ1 g1' ρ1) (b : EO t g2 σ2 g2' ρ2) (h57 : ρ1.1 57 = ρ2.1 57) (h59 : ρ1.1 59 = ρ2.1 59) (h96 : ρ1.2.1 96 = ρ2.2.1 96) : RA t g1' g2' ρ1 ρ2 := by
  obtain ⟨c1, c2⟩ := EO_rt hQ1 a
  obtain ⟨d1, d2⟩ := EO_rt hQ2 b
  have rt := RA_rt hQ1 hR
  obtain ⟨r1, r2, r3, r4⟩ := hR
  have ina : ∀ x i, InA ρ1 x i ↔ InA σ1 x i := InA_c (a.2.2 63 (by omega)) (a.2.2 72 (by omega)) (a.2.2 22 (by omega)) (a.2.2 24 (by omega)) (a.2.2 30 (by omega)) (a.2.2 44 (by omega)) (fun u _ => hdU_h (a.2.1 21 u (by omega) (fun z => by have := Zn_rt hQ1 z (by unfold AlR; omega); unfold Zn at this; omega))) (fun j hj => a.2.1 30 j (by omega) (fun z => by have := Zn_rt hQ1 z (by unfold AlR; omega); unfold Zn at this; omega)) (fun p _ j hj => a.2.1 31 _ (by omega) (fun z => by have := Zn_rt hQ1 z (by unfold AlR; omega); unfold Zn at this; omega))
  refine ⟨fun x i z hv => ?_, fun x i hx hz hn => ?_, fun j hj => ?_, h96⟩
  · have z := (c2 t x i).mp z
    exact VC_3 (VC_3 (VC_sy (a.1 x i z)) (r1 x i z hv)) (b.1 x i ((rt t x i).mpr z))
  · have n1 : ¬ RtP t σ1 x i := fun z => hz (Zn_rt hQ1 z hx)
    have n2 : ¬ RtP t σ2 x i := fun z => hz (Zn_rt hQ2 z hx)
    rw [a.2.1 x i (by unfold AlR at hx; omega) n1, b.2.1 x i (by unfold AlR at hx; omega) n2]
    exact r2 x i hx hz (fun z => hn ((ina x i).mpr z))
  · by_cases e1 : j = 57
    · rw [e1]; exact h57
    by_cases e2 : j = 59
    · rw [e2]; exact h59
    rw [a.2.2 j (by unfold AlS at hj; omega), b.2.2 j (by unfold AlS at hj; omega)]
    exact r3 j hj
theorem RA_mo (hu : u ≤ t) (hR : RA t g1 g2 σ1 σ2) : RA u g1 g2 σ1 σ2 := ⟨fun a i z hv => hR.1 a i (RtP_mo hu z) hv, hR.2⟩
end RAS
end JnS196
section JnS197
/-! Two runs side by side (reference): answers, the pile, sweeps. -/
section KSW
variable {g1 g2 : Nat → Prop} {l1 l2 : List Nat} {B1 h1 B2 h2 n t X1 X2 : Nat} {σ1 σ2 : MS}
/-- one answer: the same work on both sides -/
theorem k_answer {v1 v2 w : Nat} (hS1 : HS g1 l1 B1 h1 σ1) (hS2 : HS g2 l2 B2 h2 σ2) (hv1 : v1 < 3 ∨ g1 v1) (hv2 : v2 < 3 ∨ g2 v2) (hv : EVb (σ1.2.2 28) (σ2.2.2 28) v1 v2) (e1 : σ1.1 56 = 0) (e2 : σ2.1 56 = 0) (w1 : σ1.1 57 = nI w) (w2 : σ2.1 57 = nI w) (hw : w ≤ 2000000000) {L1 L2 : Nat → Int32} (d1 : L1 1 = nI v1) (d2 : L2 1 = nI v2) : Pm n (fun k => x_answer k 0 L1 σ1) (fun k => x_answer k 0 L2 σ2) (fun r1 r2 => r1.1 = nI v1 ∧ r2.1 = nI v2 ∧ WkO σ1 w (szN (σ1.2.2 28) v1) r1.2 ∧ WkO σ2 w (szN (σ1.2.2 28) v1) r2.2) := by
  refine Pm_mono (Pm_t2 (s_answer hS1 hv1 w1 hw d1) (fun k => f_answer k _ _ _) (s_answer hS2 hv2 w2 hw d2) (fun k => f_answer k _ _ _)) (fun r1 r2 hr => ?_)
  obtain ⟨⟨a1, a2⟩, b1, b2⟩ := hr
  have a2 := (a2.resolve_left (fun z => z.1 e1)).2
  have b2 := (b2.resolve_left (fun z => z.1 e2)).2
  rw [(EVb_sz hv).1] at b2
  exact ⟨a1, b1, a2, b2⟩
theorem WkO_er {σ τ : MS} {w m : Nat} (h : σ.1 56 = 0) (hW : WkO σ w m τ) : τ.1 56 = 0 ↔ w + m ≤ 60000 := by
  rcases hW with ⟨z, e⟩ | ⟨z, e⟩
  · rw [e]; exact ⟨fun _ => z, fun _ => h⟩
  · rw [e]; exact ⟨fun y => absurd y (mEr_e (by decide)), fun y => by omega⟩
/-- a value upon both piles -/
theorem RA_set {x y : Int32} {w1 w2 : Int32} (hQ : RtQ σ1) (hR : RA t g1 g2 σ1 σ2) (hv : VC g1 g2 (σ1.2.2 28) (σ2.2.2 28) x y) : RA (t + 1) g1 g2 (mAr σ1 29 t x) (mAr σ2 29 t y) := by
  obtain ⟨r1, r2, r3, r4⟩ := hR
  refine ⟨fun a i z ha => ?_, fun a i ha hz hn => ?_, r3, r4⟩
  · have hR := RtP_c (t := t + 1) (τ := mAr σ1 29 t x) (σ := σ1) rfl rfl (mAr_o (by decide)) (mAr_o (by decide))
    rw [show (mAr σ1 29 t x).2.2 28 = σ1.2.2 28 from mAr_o (by decide), show (mAr σ2 29 t y).2.2 28 = σ2.2.2 28 from mAr_o (by decide)]
    by_cases e : a = 29
    · subst e
      rw [mAr_s, mAr_s]
      by_cases e2 : i = t
      · subst e2; rw [upd_same, upd_same]; exact hv
      · rw [upd_other e2, upd_other e2]
        rcases RtP_up ((hR 29 i).mp z) with q | q
        · exact r1 29 i q ha
        · exact absurd q.2 e2
    · rw [mAr_o e, mAr_o e]
      rcases RtP_up ((hR a i).mp z) with q | q
      · exact r1 a i q ha
      · exact absurd q.1 e
  · have e : a ≠ 29 := by unfold AlR at ha; omega
    rw [mAr_o e, mAr_o e]; exact r2 a i ha hz (fun z => hn ((InA_c (σ := σ1) (ρ := mAr σ1 29 t x) rfl rfl rfl rfl rfl rfl (fun u _ => by rw [mAr_o (by decide)]) (fun j _ => by rw [mAr_o (by decide)]) (fun p _ j _ => by rw [mAr_o (by decide)]) a i).mpr z))
/-- other numbers, the same rows -/
theorem RA_c {τ1 τ2 : MS} (hR : RA t g1 g2 σ1 σ2) (a1 : τ1.2.2 = σ1.2.2) (a2 : τ2.2.2 = σ2.2.2) (h63 : τ1.1 63 = σ1.1 63) (h72 : τ1.1 72 = σ1.1 72) (h22 : τ1.1 22 = σ1.1 22) (h24 : τ1.1 24 = σ1.1 24) (hc : τ1.1 30 = σ1.1 30) (h44 : τ1.1 44 = σ1.1 44) (hs : ∀ j, AlS j → τ1.1 j = τ2.1 j) (h96 : τ1.2.1 96 = τ2.2.1 96) : RA t g1 g2 τ1 τ2 := by
  obtain ⟨r1, r2, r3, r4⟩ := hR
  refine ⟨fun a i z ha => ?_, fun a i ha hz hn => ?_, hs, h96⟩
  · rw [a1, a2]
    exact r1 a i ((RtP_c h63 h72 (congrFun a1 30) (congrFun a1 31) a i).mp z) ha
  · rw [a1, a2]; exact r2 a i ha hz (fun z => hn ((InA_c (σ := σ1) (ρ := τ1) h63 h72 h22 h24 hc h44 (fun u _ => by rw [a1]) (fun j _ => by rw [a1]) (fun p _ j _ => by rw [a1]) a i).mpr z))
/-- both sweep: alike behind it, and there is room -/
theorem k_sweep {XM : Nat} (hX : XM ≤ 790000) (m1 : MI t X1 g1 l1 B1 h1 σ1) (m2 : MI t X2 g2 l2 B2 h2 σ2) (hR : RA t g1 g2 σ1 σ2) (t1 : σ1.1 59 = nI t) (ht : t ≤ 185000) (x1 : X1 ≤ XM) (x2 : X2 ≤ XM) {L1 L2 : Nat → Int32} (d1 : L1 1 = nI 780000) (d2 : L2 1 = nI 780000) : Pm n (fun k => x_sweep k 0 L1 σ1) (fun k => x_sweep k 0 L2 σ2) (fun r1 r2 => ∃ (g1' : Nat → Prop) (l1' : List Nat) (B1' h1' : Nat) (g2' : Nat → Prop) (l2' : List Nat) (B2' h2' : Nat), MI t X1 g1' l1' B1' h1' r1.2 ∧ MI t X2 g2' l2' B2' h2' r2.2 ∧ RA t g1' g2' r1.2 r2.2 ∧ EO t g1 σ1 g1' r1.2 ∧ EO t g2 σ2 g2' r2.2 ∧ (∀ j, j ≠ 54 → j ≠ 55 → r1.2.1 j = σ1.1 j) ∧ (∀ j, j ≠ 54 → j ≠ 55 → r2.2.1 j = σ2.1 j) ∧ h1' + 79900 ≤ B1' + 870000 ∧ h2' + 79900 ≤ B2' + 870000) := by
  have t2 : σ2.1 59 = nI t := (hR.2.2.1 59 (by unfold AlS; omega)).symm.trans t1
  refine Pm_mono (Pm_wl (fun k => wl_sweep k _ _ _) (fun k => wl_sweep k _ _ _) (Pm_t2 (MI_sw (T := 780000) m1 t1 ht d1 (by decide)) (fun k => f_sweep k _ _ _) (MI_sw (T := 780000) m2 t2 ht d2 (by decide)) (fun k => f_sweep k _ _ _))) (fun r1 r2 hr => ?_)
  obtain ⟨⟨⟨g1', l1', B1', h1', a1, a2, a3, a4⟩, ⟨g2', l2', B2', h2', b1, b2, b3, b4⟩⟩, c1, c2⟩ := hr
  refine ⟨g1', l1', B1', h1', g2', l2', B2', h2', a1, b1, RA_step m1.2.1 m2.2.1 hR a2 b2 ?_ ?_ ?_, a2, b2, a3, b3, by omega, by omega⟩
  · rw [a3 57 (by decide) (by decide), b3 57 (by decide) (by decide)]; exact hR.2.2.1 57 (by unfold AlS; omega)
  · rw [a3 59 (by decide) (by decide), b3 59 (by decide) (by decide)]; exact hR.2.2.1 59 (by unfold AlS; omega)
  · rw [c1, c2]; exact hR.2.2.2
/-- an operation on both sides -/
theorem RA_gr {g1' g2' : Nat → Prop} {l1' l2' : List Nat} {h1' h2' : Nat} {ρ1 ρ2 : MS} (m1 : MI t X1 g1 l1 B1 h1 σ1) (m2 : MI t X2 g2 l2 B2 h2 σ2) (hR : RA t g1 g2 σ1 σ2) (a1 : HG g1 B1 h1 σ1 ρ1 g1' l1' h1') (a2 : HG g2 B2 h2 σ2 ρ2 g2' l2' h2') (f1 : FW t σ1 ρ1) (f2 : FW t σ2 ρ2) (h59 : ρ1.1 59 = ρ2.1 59) (h96 : ρ1.2.1 96 = ρ2.2.1 96) : MI t X1 g1' l1' B1 h1' ρ1 ∧ MI t X2 g2' l2' B2 h2' ρ2 ∧ RA t g1' g2' ρ1 ρ2 := by
  obtain ⟨k1, k2⟩ := MI_gr m1 a1 f1
  obtain ⟨j1, j2⟩ := MI_gr m2 a2 f2
  refine ⟨k1, j1, RA_step m1.2.1 m2.2.1 hR k2 j2 ?_ h59 h96⟩
  rw [f1.1 57 (by decide), f2.1 57 (by decide)]; exact hR.2.2.1 57 (by unfold AlS; omega)
end KSW
section PCK
variable {g : Nat → Prop} {l : List Nat} {B h t X : Nat} {σ : MS}
/-- what lies there, or a member of what lies below it, is put at the top -/
theorem MI_pick {v p i m : Nat} {x : Int32} (hM : MI (t + 2) X g l B h σ) (h29 : σ.2.2 29 t = nI v) (gv : g v) (hk : 5 ≤ kdN (σ.2.2 28) v) (hp : σ.2.2 28 (v + 1) = nI p) (hp2 : p ≤ 3996) (hi : i < p) (hm : σ.2.2 28 (v + 4 + i) = nI m) (hm2 : m < 3 ∨ g m) (hx : x = σ.2.2 29 (t + 1) ∨ x = nI m) : MI (t + 2) X g l B h (mAr σ 29 (t + 1) x) := by
  rcases hx with hx | hx
  · rw [hx]; exact MI_c hM rfl rfl rfl rfl (mAr_same rfl)
  · rw [hx]
    refine MI_str (MI_mo hM (by omega)) ?_
    have hv3 : RoS (t + 1) σ v := by
      obtain ⟨_, _, _, _, _, z, _⟩ := HS_at hM.1 gv
      exact ⟨by omega, HS_vb hM.1 (Or.inr gv), 29, t, Or.inl ⟨rfl, by omega⟩, h29⟩
    exact Rch_mem hM.1 (Rch_b hv3) hk gv hp hp2 hi hm hm2
end PCK
end JnS197
section JnS198
/-! Two runs side by side (reference): reductions. -/
/-- room for c cells; alike behind an operation that may sweep -/
def Rm (c : Nat) (σ : MS) : Prop := ∃ B h, σ.1 54 = nI B ∧ B ≤ 870000 ∧ σ.1 55 = nI h ∧ h + c ≤ B + 870000
def KR (c : Nat) (r1 r2 : Int32 × MS) : Prop := (r1.2.1 56 = 0 ↔ r2.2.1 56 = 0) ∧ (r1.2.1 56 = 0 → (Rm c r1.2 ∧ Rm c r2.2) ∧ r1.2.1 57 = r2.2.1 57 ∧ ∃ a b, r1.1 = nI a ∧ r2.1 = nI b ∧ a < 1740000 ∧ b < 1740000 ∧ EVb (r1.2.2.2 28) (r2.2.2.2 28) a b)
theorem KR_er {c : Nat} {r1 r2 : Int32 × MS} (e1 : ¬ r1.2.1 56 = 0) (e2 : ¬ r2.2.1 56 = 0) : KR c r1 r2 := ⟨⟨fun z => absurd z e1, fun z => absurd z e2⟩, fun z => absurd z e1⟩
theorem Rm_HS {g : Nat → Prop} {l : List Nat} {B h c : Nat} {σ : MS} (hS : HS g l B h σ) (hr : h + c ≤ B + 870000) : Rm c σ := ⟨B, h, hS.1, by have := hS.2.1; omega, hS.2.2.1, hr⟩
theorem VQ_54 {g : Nat → Prop} {B h t w : Nat} {σ : MS} {r : Int32 × MS} (a : VQ g B h t w σ r) : r.2.1 54 = nI B ∧ B ≤ 870000 := by
  obtain ⟨_, _, _, a1, _⟩ := a
  have := a1.1.2.1
  exact ⟨a1.1.1, by omega⟩
theorem VO_54 {g : Nat → Prop} {B h t : Nat} {σ : MS} {r : Int32 × MS} (a : VO g B h t σ r) : r.2.1 54 = nI B ∧ B ≤ 870000 := VQ_54 (VQ_of (w := 0) a)
theorem KR_of {h1 h2 K B1 B2 c : Nat} {r1 r2 : Int32 × MS} (b1 : r1.2.1 54 = nI B1 ∧ B1 ≤ 870000) (b2 : r2.2.1 54 = nI B2 ∧ B2 ≤ 870000) (hc : h1 + K + c ≤ B1 + 870000 ∧ h2 + K + c ≤ B2 + 870000) (hq : KQ h1 h2 K r1 r2) (h57 : r1.2.1 57 = r2.2.1 57) : KR c r1 r2 := by
  obtain ⟨q1, q2, p1, p2, c1, c2, c3, c4⟩ := hq
  exact ⟨q1, fun z => ⟨⟨⟨B1, p1, b1.1, b1.2, c1, by omega⟩, ⟨B2, p2, b2.1, b2.2, c2, by omega⟩⟩, h57, q2 z⟩⟩
section KRD
variable {g1 g2 g1' g2' : Nat → Prop} {l1 l2 l1' l2' : List Nat} {B1 h1 B2 h2 h1' h2' B1' B2' n : Nat} {σ1 σ2 ρ1 ρ2 : MS}
/-- the same two objects, wherever they have come to lie -/
theorem OE_eo {v1 v2 kk p : Nat} {x y : Int32} (hS1 : HS g1' l1' B1' h1' ρ1) (hS2 : HS g2' l2' B2' h2' ρ2) (hO : OE g1 g2 (σ1.2.2 28) (σ2.2.2 28) v1 v2 kk p) (hk : 2 ≤ kk) (a : VC g1 g1' (σ1.2.2 28) (ρ1.2.2 28) (nI v1) x) (b : VC g1' g2' (ρ1.2.2 28) (ρ2.2.2 28) x y) : ∃ u1 u2, x = nI u1 ∧ y = nI u2 ∧ OE g1' g2' (ρ1.2.2 28) (ρ2.2.2 28) u1 u2 kk p := by
  obtain ⟨_, _, o3, _, _, o6, o7, _, _, _, o11, _, o13, _, _, _, _⟩ := hO
  obtain ⟨m, m', q1, q2, q3, q4, q5, q6, q7⟩ := a
  have e : v1 = m := (n_eq (by omega) (by omega)).mp q1
  subst e
  obtain ⟨c, d, r1, r2, r3, r4, r5, r6, r7⟩ := b
  have e : c = m' := (n_eq (by omega) (by omega)).mp (r1.symm.trans q3)
  subst e
  have hkd : kdN (ρ1.2.2 28) c = kk := (EVb_sz q5).2.2.trans o7
  obtain ⟨k', p', hE⟩ := OE_of hS1 hS2 (kdN_ge hS1 q4 (by omega)) r4 r5
  have ek : k' = kk := hE.2.2.2.2.2.2.1.symm.trans hkd
  have ep : p' = p := by
    have z := EVb_hd q5 o3 (i := 1) (by omega)
    have hp' := hE.2.2.2.2.2.1
    have z2 := hE.2.2.2.2.2.2.2.2.2.2.1
    rw [z, o11] at z2
    exact ((n_eq (by omega) (by omega)).mp z2).symm
  subst ek
  subst ep
  exact ⟨c, d, q3, r3, hE⟩
/-- midway in a reduction, on both sides -/
def KRd (t p w XC : Nat) (τ1 τ2 : MS) (gA : Nat → Prop) (lA : List Nat) (BA hA XA : Nat) (gB : Nat → Prop) (lB : List Nat) (BB hB XB : Nat) : Prop := MI (t + 2) XA gA lA BA hA τ1 ∧ MI (t + 2) XB gB lB BB hB τ2 ∧ RA (t + 2) gA gB τ1 τ2 ∧ (∃ v1 v2 kk, τ1.2.2 29 t = nI v1 ∧ τ2.2.2 29 t = nI v2 ∧ 5 ≤ kk ∧ OE gA gB (τ1.2.2 28) (τ2.2.2 28) v1 v2 kk p) ∧ τ1.1 59 = nI (t + 2) ∧ τ1.1 56 = 0 ∧ τ2.1 56 = 0 ∧ τ1.1 57 = nI w ∧ (w ≤ 60000 ∧ hA + 8600 ≤ BA + 870000 ∧ hB + 8600 ≤ BB + 870000) ∧ XA ≤ XC + 6 * w ∧ XB ≤ XC + 6 * w
def KLo (p t i : Nat) (N : Nat → Int32) : Prop := N 4 = nI p ∧ N 5 = nI t ∧ N 6 = nI i
theorem k_redE {m : Nat} {N1 N2 : Nat → Int32} {τ1 τ2 : MS} (e1 : ¬ τ1.1 56 = 0) (e2 : ¬ τ2.1 56 = 0) : Pm m (fun k => x_reduce k 14 N1 τ1) (fun k => x_reduce k 14 N2 τ2) (KR 8600) := by
  refine Pm_suc rfl (fun k => by rw [x_reduce]) (fun k => by rw [x_reduce]) (fun m1 _ => ?_)
  refine Pm_suc rfl (fun k => by rw [x_reduce]) (fun k => by rw [x_reduce]) (fun m2 _ => ?_)
  refine Pm_ite ⟨fun z => absurd z e1, fun z => absurd z e2⟩ (fun z _ => absurd z e1) (fun _ _ => ?_)
  refine Pm_suc rfl (fun k => by rw [x_reduce]) (fun k => by rw [x_reduce]) (fun m3 _ => ?_)
  refine Pm_suc rfl (fun k => by rw [x_reduce]) (fun k => by rw [x_reduce]) (fun m4 _ => ?_)
  exact Pm_some (KR_er e1 e2)
theorem k_red12E {m : Nat} {N1 N2 : Nat → Int32} {τ1 τ2 : MS} (n4 : N1 4 = N2 4) (n6 : N1 6 = N2 6) (e1 : ¬ τ1.1 56 = 0) (e2 : ¬ τ2.1 56 = 0) : Pm m (fun k => x_reduce k 12 N1 τ1) (fun k => x_reduce k 12 N2 τ2) (KR 8600) := by
  refine Pm_suc rfl (fun k => by rw [x_reduce]) (fun k => by rw [x_reduce]) (fun m1 _ => ?_)
  refine Pm_chk (fun _ _ => ?_)
  refine Pm_suc rfl (fun k => by rw [x_reduce]) (fun k => by rw [x_reduce]) (fun m2 _ => ?_)
  refine Pm_suc rfl (fun k => by rw [x_reduce]) (fun k => by rw [x_reduce]) (fun m3 _ => ?_)
  rw [show upd N1 6 (N1 6 + 1) 4 = upd N2 6 (N2 6 + 1) 4 from n4, show upd N1 6 (N1 6 + 1) 6 = upd N2 6 (N2 6 + 1) 6 by show N1 6 + 1 = N2 6 + 1; rw [n6]]
  refine Pm_ite Iff.rfl (fun _ _ => k_redE e1 e2) (fun _ _ => ?_)
  exact Pm_ite ⟨fun z => absurd z e1, fun z => absurd z e2⟩ (fun z _ => absurd z e1) (fun _ _ => k_redE e1 e2)
theorem k_red3 {t p XC : Nat} (ht : t ≤ 176000) (hXC : XC ≤ 408500) : ∀ (m i w : Nat) (N1 N2 : Nat → Int32) (τ1 τ2 : MS) (gA : Nat → Prop) (lA : List Nat) (BA hA XA : Nat) (gB : Nat → Prop) (lB : List Nat) (BB hB XB : Nat), i ≤ p → N1 1 = N2 1 → KLo p t i N1 → KLo p t i N2 → KRd t p w XC τ1 τ2 gA lA BA hA XA gB lB BB hB XB → Pm m (fun k => x_reduce k 3 N1 τ1) (fun k => x_reduce k 3 N2 τ2) (KR 8600) := by
  intro m
  induction m using Nat.strongRecOn with
  | ind m ih =>
  intro i w N1 N2 τ1 τ2 gA lA BA hA XA gB lB BB hB XB hi n1 hN1 hN2 hD
  obtain ⟨m1, m2, hR, ⟨v1, v2, kk, c1, c2, hk5, hO⟩, t1, e1, e2, w1, hw, x1, x2⟩ := hD
  have hp3 := hO.2.2.2.2.2.1
  have t2 : τ2.1 59 = nI (t + 2) := (hR.2.2.1 59 (by unfold AlS; omega)).symm.trans t1
  have w2 : τ2.1 57 = nI w := (hR.2.2.1 57 (by unfold AlS; omega)).symm.trans w1
  have vt1 : VC gA gB (τ1.2.2 28) (τ2.2.2 28) (τ1.2.2 29 (t + 1)) (τ2.2.2 29 (t + 1)) := hR.1 29 (t + 1) (Or.inl ⟨rfl, by omega⟩) (by unfold VwR; omega)
  have c14 : ∀ m', Pm m' (fun k => x_reduce k 14 N1 τ1) (fun k => x_reduce k 14 N2 τ2) (KR 8600) := fun m' => by
    refine Pm_suc rfl (fun k => by rw [x_reduce]) (fun k => by rw [x_reduce]) (fun k1 _ => ?_)
    refine Pm_suc rfl (fun k => by rw [x_reduce]) (fun k => by rw [x_reduce]) (fun k2 _ => ?_)
    rw [hN1.2.1, hN2.2.1, n_add1, n_cl (p := t + 1) (by omega)]
    refine Pm_ite ⟨fun _ => e2, fun _ => e1⟩ (fun _ _ => ?_) (fun z _ => absurd e1 z)
    refine Pm_chk (fun _ _ => ?_)
    refine Pm_suc rfl (fun k => by rw [x_reduce]) (fun k => by rw [x_reduce]) (fun k3 _ => ?_)
    obtain ⟨a, b, a1, a2, b1, b2, ev, ab, bb⟩ := vt1
    exact Pm_some ⟨⟨fun _ => e2, fun _ => e1⟩, fun _ => ⟨⟨Rm_HS m1.1 hw.2.1, Rm_HS m2.1 hw.2.2⟩, w1.trans w2.symm, a, b, a1, b1, ab, bb, ev⟩⟩
  refine Pm_suc rfl (fun k => by rw [x_reduce]) (fun k => by rw [x_reduce]) (fun k1 hk1 => ?_)
  rw [hN1.1, hN2.1, hN1.2.2, hN2.2.2, hN1.2.1, hN2.2.1]
  refine Pm_ite Iff.rfl (fun _ _ => c14 k1) (fun z _ => ?_)
  have hip : i < p := by
    by_cases c : i < p
    · exact c
    · exact absurd ((n_le (by omega) (by omega)).mpr (by omega)) z
  refine Pm_ite ⟨fun _ => e2, fun _ => e1⟩ (fun _ _ => ?_) (fun z _ => absurd e1 z)
  refine Pm_ob (k_sweep (XM := 780000) (by omega) m1 m2 hR t1 (by omega) (by omega) (by omega) rfl rfl) (fun r1 r2 hr => ?_)
  obtain ⟨gA', lA', BA', hA', gB', lB', BB', hB', a1, a2, a3, a4, a5, a6, a7, a8, a9⟩ := hr
  have d56 : r1.2.1 56 = 0 := (a6 56 (by decide) (by decide)).trans e1
  have f56 : r2.2.1 56 = 0 := (a7 56 (by decide) (by decide)).trans e2
  have d57 : r1.2.1 57 = nI w := (a6 57 (by decide) (by decide)).trans w1
  have f57 : r2.2.1 57 = nI w := (a7 57 (by decide) (by decide)).trans w2
  have d59 : r1.2.1 59 = nI (t + 2) := (a6 59 (by decide) (by decide)).trans t1
  have f59 : r2.2.1 59 = nI (t + 2) := (a7 59 (by decide) (by decide)).trans t2
  have va := a4.1 29 t (Or.inl ⟨rfl, by omega⟩)
  rw [c1] at va
  obtain ⟨u1, u2, y1, y2, hO'⟩ := OE_eo a1.1 a2.1 hO (by omega) va (a3.1 29 t (Or.inl ⟨rfl, by omega⟩) (by unfold VwR; omega))
  have vt : VC gA' gB' (r1.2.2.2 28) (r2.2.2.2 28) (r1.2.2.2 29 (t + 1)) (r2.2.2.2 29 (t + 1)) := a3.1 29 (t + 1) (Or.inl ⟨rfl, by omega⟩) (by unfold VwR; omega)
  have hO0 := hO'
  obtain ⟨gu1, gu2, o3, o4, o5, o6, o7, o8, o9, o10, o11, o12, o13, o14, o15, o16, o17⟩ := hO'
  have vm := o16 hk5 i hip
  obtain ⟨b1, b2, bb1, bb2, bb3, bb4, bb5, bb6, bb7⟩ := vt
  obtain ⟨q1, q2, qq1, qq2, qq3, qq4, qq5, qq6, qq7⟩ := vm
  rw [n_add1, n_cl (p := t) (by omega), n_cl (p := t + 1) (by omega), y1, y2, show nI u1 + 4 = nI (u1 + 4) from n_add (q := 4) (by omega), show nI u2 + 4 = nI (u2 + 4) from n_add (q := 4) (by omega), n_add (p := u1 + 4) (by omega), n_add (p := u2 + 4) (by omega), n_cl (p := u1 + 4 + i) (by omega), n_cl (p := u2 + 4 + i) (by omega), bb1, bb3, qq1, qq3, n1]
  refine Pm_chk (fun _ _ => ?_)
  refine Pm_chk (fun _ _ => ?_)
  refine Pm_chk (fun _ _ => ?_)
  -- what is put back
  have c12 : ∀ (m' w' : Nat) (M1 M2 : Nat → Int32) (υ1 υ2 : MS) (gC : Nat → Prop) (lC : List Nat) (BC hC XC1 : Nat) (gE : Nat → Prop) (lE : List Nat) (BE hE XE1 : Nat), m' < m → M1 1 = M2 1 → KLo p t i M1 → KLo p t i M2 → KRd t p w' XC (mAr υ1 29 (t + 1) (M1 7)) (mAr υ2 29 (t + 1) (M2 7)) gC lC BC hC XC1 gE lE BE hE XE1 → Pm m' (fun k => x_reduce k 12 M1 υ1) (fun k => x_reduce k 12 M2 υ2) (KR 8600) := by
    intro m' w' M1 M2 υ1 υ2 gC lC BC hC XC1 gE lE BE hE XE1 hm' j1 hM1 hM2 hD
    refine Pm_suc rfl (fun k => by rw [x_reduce]) (fun k => by rw [x_reduce]) (fun k2 hk2 => ?_)
    rw [hM1.2.1, hM2.2.1, n_add1, n_cl (p := t + 1) (by omega)]
    refine Pm_chk (fun _ _ => ?_)
    show Pm k2 (fun k => x_reduce k 13 M1 (mAr υ1 29 (t + 1) (M1 7))) (fun k => x_reduce k 13 M2 (mAr υ2 29 (t + 1) (M2 7))) _
    refine Pm_suc rfl (fun k => by rw [x_reduce]) (fun k => by rw [x_reduce]) (fun k3 hk3 => ?_)
    rw [hM1.2.2, hM2.2.2, n_add1]
    exact ih k3 (by omega) (i + 1) w' _ _ _ _ gC lC BC hC XC1 gE lE BE hE XE1 (by omega) j1 ⟨hM1.1, hM1.2.1, rfl⟩ ⟨hM2.1, hM2.2.1, rfl⟩ hD
  have hP1 : VP gA' lA' BA' hA' (t + 2) r1.2 := ⟨a1.1, d59, by omega, ⟨0, d56, by decide⟩⟩
  have hP2 : VP gB' lB' BB' hB' (t + 2) r2.2 := ⟨a2.1, f59, by omega, ⟨0, f56, by decide⟩⟩
  -- an operation on two of them
  have opr : ∀ (m' : Nat) (K1 K2 : Nat → Int32) (ρ1 ρ2 : MS) (gC : Nat → Prop) (lC : List Nat) (hC : Nat) (gE : Nat → Prop) (lE : List Nat) (hE : Nat) (z1 z2 s1 s2 : Nat), MI (t + 2) XA gC lC BA' hC ρ1 → MI (t + 2) XB gE lE BB' hE ρ2 → RA (t + 2) gC gE ρ1 ρ2 → ρ1.1 59 = nI (t + 2) → ρ2.1 59 = nI (t + 2) → ρ1.1 56 = 0 → ρ2.1 56 = 0 → hC ≤ hA' + 8204 → hE ≤ hB' + 8204 → VC gC gE (ρ1.2.2 28) (ρ2.2.2 28) (nI z1) (nI z2) → VC gC gE (ρ1.2.2 28) (ρ2.2.2 28) (nI s1) (nI s2) → z1 < 1740000 → z2 < 1740000 → s1 < 1740000 → s2 < 1740000 → K1 1 = K2 1 → K1 2 = nI z1 → K2 2 = nI z2 → K1 3 = nI s1 → K2 3 = nI s2 → LEn 4 K1 K2 → Pm m' (fun k => x_operate k 0 K1 ρ1) (fun k => x_operate k 0 K2 ρ2) (fun s1 s2 => (s1.2.1 56 = 0 ↔ s2.2.1 56 = 0) ∧ (s1.2.1 56 = 0 → ∃ (gC' : Nat → Prop) (lC' : List Nat) (hC' : Nat) (gE' : Nat → Prop) (lE' : List Nat) (hE' : Nat), HG gC BA' hC ρ1 s1.2 gC' lC' hC' ∧ HG gE BB' hE ρ2 s2.2 gE' lE' hE' ∧ FW (t + 2) ρ1 s1.2 ∧ FW (t + 2) ρ2 s2.2 ∧ s1.2.1 59 = nI (t + 2) ∧ s2.2.1 59 = nI (t + 2) ∧ VC gC' gE' (s1.2.2.2 28) (s2.2.2.2 28) s1.1 s2.1 ∧ hC' ≤ hC + 8204 ∧ hE' ≤ hE + 8204 ∧ MI (t + 2) XA gC' lC' BA' hC' s1.2 ∧ MI (t + 2) XB gE' lE' BB' hE' s2.2 ∧ RA (t + 2) gC' gE' s1.2 s2.2)) := by
    intro m' K1 K2 ρ1 ρ2 gC lC hC gE lE hE z1 z2 s1 s2 i1 i2 i3 i4 i5 i6 i7 i8 i9 vz vs jz1 jz2 js1 js2 k1 k2 k3 k4 k5 hK
    obtain ⟨y1, y2, yy1, yy2, yy3, yy4, yy5, yy6, yy7⟩ := vz
    have ez1 : z1 = y1 := (n_eq (by omega) (by omega)).mp yy1
    have ez2 : z2 = y2 := (n_eq (by omega) (by omega)).mp yy3
    subst ez1
    subst ez2
    obtain ⟨x1, x2, xx1, xx2, xx3, xx4, xx5, xx6, xx7⟩ := vs
    have es1 : s1 = x1 := (n_eq (by omega) (by omega)).mp xx1
    have es2 : s2 = x2 := (n_eq (by omega) (by omega)).mp xx3
    subst es1
    subst es2
    refine Pm_mono (Pm_wl (fun k => wl_operate k _ _ _) (fun k => wl_operate k _ _ _) (Pm_un (s_operate ⟨i1.1, i4, by omega, ⟨0, i6, by decide⟩⟩ yy2 xx2 (by exact k2) (by exact k4)) (fun k => f_operate k _ _ _) (s_operate ⟨i2.1, i5, by omega, ⟨0, i7, by decide⟩⟩ yy4 xx4 (by exact k3) (by exact k5)) (fun k => f_operate k _ _ _) (k_operate i1.1 i2.1 i6 i7 i4 i5 (by omega) (by omega) (by omega) yy2 yy4 yy5 xx2 xx4 xx5 k1 k2 k4 k3 k5 hK))) (fun s1 s2 hs => ?_)
    obtain ⟨⟨hq, o1, o2⟩, l1, l2⟩ := hs
    refine ⟨hq.1, fun z => ?_⟩
    obtain ⟨G1, M1, H1, G2, M2, H2, p1, p2, p3, p4, p5, p6, p7, p8, p9, p10⟩ := KQ_gr (by omega) i1.1 i2.1 o1 o2 hq z
    obtain ⟨q1, q2, q3⟩ := RA_gr i1 i2 i3 p1 p2 p3 p4 (p5.trans p6.symm) (by rw [l1, l2]; exact i3.2.2.2)
    exact ⟨G1, M1, H1, G2, M2, H2, p1, p2, p3, p4, p5, p6, p8, p9, p10, q1, q2, q3⟩
  -- a sum, a product
  have b4 : ∀ (m' : Nat) (M1 M2 : Nat → Int32), m' < m → M1 1 = M2 1 → KLo p t i M1 → KLo p t i M2 → M1 7 = nI b1 → M2 7 = nI b2 → M1 8 = nI q1 → M2 8 = nI q2 → Pm m' (fun k => x_reduce k 4 M1 r1.2) (fun k => x_reduce k 4 M2 r2.2) (KR 8600) := by
    intro m' M1 M2 hm' j1 hM1 hM2 j7 l7 j8 l8
    refine Pm_suc rfl (fun k => by rw [x_reduce]) (fun k => by rw [x_reduce]) (fun k2 hk2 => ?_)
    refine Pm_ob (opr k2 _ _ r1.2 r2.2 gA' lA' hA' gB' lB' hB' b1 b2 q1 q2 a1 a2 a3 d59 f59 d56 f56 (by omega) (by omega) ⟨b1, b2, rfl, bb2, rfl, bb4, bb5, bb6, bb7⟩ ⟨q1, q2, rfl, qq2, rfl, qq4, qq5, qq6, qq7⟩ bb6 bb7 qq6 qq7 j1 j7 l7 j8 l8 (fun j hj => ?_)) (fun s1 s2 hs => ?_)
    · rw [upd_other (by omega), upd_other (by omega), upd_other (by omega), upd_other (by omega), upd_other (by omega), upd_other (by omega)]
    obtain ⟨ee, hs⟩ := hs
    by_cases er : s1.2.1 56 = 0
    · obtain ⟨gC, lC, hC, gE, lE, hE, p1, p2, p3, p4, p5, p6, p7, p8, p9, p10, p11, p12⟩ := hs er
      obtain ⟨c, d, cc1, cc2, cc3, cc4, cc5, cc6, cc7⟩ := p7
      have er2 := ee.mp er
      have s57 : s1.2.1 57 = nI w := (p3.1 57 (by decide)).trans d57
      have u57 : s2.2.1 57 = nI w := (p4.1 57 (by decide)).trans f57
      refine Pm_ob (Pm_wl (fun k => wl_answer k _ _ _) (fun k => wl_answer k _ _ _) (k_answer p1.1 p2.1 cc2 cc4 cc5 er er2 s57 u57 (by omega) (by exact cc1) (by exact cc3))) (fun z1 z2 hz => ?_)
      obtain ⟨⟨i1, i2, i3, i4⟩, wl1, wl2⟩ := hz
      by_cases le : w + szN (s1.2.2.2 28) c ≤ 60000
      · have ys1 : ∀ j, j ≠ 56 → j ≠ 57 → z1.2.1 j = s1.2.1 j := fun j q1 q2 => WkO_s i3 q1 q2
        have ys2 : ∀ j, j ≠ 56 → j ≠ 57 → z2.2.1 j = s2.2.1 j := fun j q1 q2 => WkO_s i4 q1 q2
        have y57 : z1.2.1 57 = nI (w + szN (s1.2.2.2 28) c) := WkO_57 i3
        have zr1 := (WkO_er er i3).mpr le
        have zr2 := (WkO_er er2 i4).mpr le
        have mo1 : MI (t + 1) XA gC lC BA' hC s1.2 := MI_mo p10 (by omega)
        have mo2 : MI (t + 1) XB gE lE BB' hE s2.2 := MI_mo p11 (by omega)
        have st1 := MI_set mo1 cc2
        have st2 := MI_set mo2 cc4
        have ea1 : (mAr z1.2 29 (t + 1) (nI c)).2.2 = (mAr s1.2 29 (t + 1) (nI c)).2.2 := by
          show updG z1.2.2.2 29 (upd (z1.2.2.2 29) (t + 1) (nI c)) = updG s1.2.2.2 29 (upd (s1.2.2.2 29) (t + 1) (nI c))
          rw [WkO_a i3]
        have ea2 : (mAr z2.2 29 (t + 1) (nI d)).2.2 = (mAr s2.2 29 (t + 1) (nI d)).2.2 := by
          show updG z2.2.2.2 29 (upd (z2.2.2.2 29) (t + 1) (nI d)) = updG s2.2.2.2 29 (upd (s2.2.2.2 29) (t + 1) (nI d))
          rw [WkO_a i4]
        have rs := RA_set (w1 := 0) (w2 := 0) mo1.2.1 (RA_mo (show t + 1 ≤ t + 2 by omega) p12) ⟨c, d, rfl, cc2, rfl, cc4, cc5, cc6, cc7⟩
        have oo : ∃ w1 w2, s1.2.2.2 29 t = nI w1 ∧ s2.2.2.2 29 t = nI w2 ∧ OE gC gE (s1.2.2.2 28) (s2.2.2.2 28) w1 w2 kk p := by
          have g1 : s1.2.2.2 29 t = nI u1 := (p3.2.2 t (by omega)).trans y1
          have va := VC_gr a1.1 p1 (x := nI u1) ⟨u1, rfl, Or.inr gu1⟩
          have vb := p12.1 29 t (Or.inl ⟨rfl, by omega⟩) (by unfold VwR; omega)
          rw [g1] at vb
          obtain ⟨w1, w2, ww1, ww2, hE⟩ := OE_eo p1.1 p2.1 hO0 (by omega) va vb
          exact ⟨w1, w2, g1.trans ww1, ww2, hE⟩
        obtain ⟨w1', w2', ww1, ww2, hOE⟩ := oo
        refine c12 k2 (w + szN (s1.2.2.2 28) c) _ _ z1.2 z2.2 gC lC BA' hC (XA + 6 * szN (s1.2.2.2 28) c) gE lE BB' hE (XB + 6 * szN (s2.2.2.2 28) d) (by omega) j1 hM1 hM2 ?_
        show KRd t p (w + szN (s1.2.2.2 28) c) XC (mAr z1.2 29 (t + 1) z1.1) (mAr z2.2 29 (t + 1) z2.1) _ _ _ _ _ _ _ _ _ _
        rw [i1, i2]
        refine ⟨MI_c st1 (ys1 54 (by decide) (by decide)) (ys1 55 (by decide) (by decide)) (ys1 63 (by decide) (by decide)) (ys1 72 (by decide) (by decide)) ea1, MI_c st2 (ys2 54 (by decide) (by decide)) (ys2 55 (by decide) (by decide)) (ys2 63 (by decide) (by decide)) (ys2 72 (by decide) (by decide)) ea2, ?_, ⟨w1', w2', kk, ?_, ?_, hk5, ?_⟩, ?_, zr1, zr2, y57, ⟨le, by omega, by omega⟩, by omega, by rw [(EVb_sz cc5).1]; omega⟩
        · refine RA_c rs ea1 ea2 (ys1 63 (by decide) (by decide)) (ys1 72 (by decide) (by decide)) (ys1 22 (by decide) (by decide)) (ys1 24 (by decide) (by decide)) (ys1 30 (by decide) (by decide)) (ys1 44 (by decide) (by decide)) (fun j hj => ?_) ?_
          · show z1.2.1 j = z2.2.1 j
            by_cases e57 : j = 57
            · rw [e57, WkO_57 i3, WkO_57 i4]
            · rw [WkO_s i3 (by unfold AlS at hj; omega) e57, WkO_s i4 (by unfold AlS at hj; omega) e57]
              exact p12.2.2.1 j hj
          · show z1.2.2.1 96 = z2.2.2.1 96
            rw [wl1, wl2]; exact p12.2.2.2
        · rw [mAr_s, upd_other (by omega), WkO_a i3]; exact ww1
        · rw [mAr_s, upd_other (by omega), WkO_a i4]; exact ww2
        · rw [mAr_o (by decide), mAr_o (by decide), WkO_a i3, WkO_a i4]; exact hOE
        · exact (ys1 59 (by decide) (by decide)).trans p5
      · have zr1 : ¬ z1.2.1 56 = 0 := fun y => le ((WkO_er er i3).mp y)
        have zr2 : ¬ z2.2.1 56 = 0 := fun y => le ((WkO_er er2 i4).mp y)
        exact k_red12E (hM1.1.trans hM2.1.symm) (hM1.2.2.trans hM2.2.2.symm) zr1 zr2
    · have er2 : ¬ s2.2.1 56 = 0 := fun z => er (ee.mpr z)
      refine Pm_ob (Pm_t2 (P1 := fun r => r.2.1 56 = s1.2.1 56) (P2 := fun r => r.2.1 56 = s2.2.1 56) ?_ (fun k => f_answer k _ _ _) ?_ (fun k => f_answer k _ _ _)) (fun z1 z2 hz => ?_)
      · refine Tm_suc (fun k => by rw [x_answer]) ?_
        refine Tm_ite (fun z => absurd z er) (fun _ => ?_)
        refine Tm_suc (fun k => by rw [x_answer]) ?_
        exact Tm_some rfl
      · refine Tm_suc (fun k => by rw [x_answer]) ?_
        refine Tm_ite (fun z => absurd z er2) (fun _ => ?_)
        refine Tm_suc (fun k => by rw [x_answer]) ?_
        exact Tm_some rfl
      · exact k_red12E (hM1.1.trans hM2.1.symm) (hM1.2.2.trans hM2.2.2.symm) (by rw [hz.1]; exact er) (by rw [hz.2]; exact er2)
  -- the larger, the smaller
  have b9 : ∀ (m' : Nat) (M1 M2 : Nat → Int32) (ρ1 ρ2 : MS) (gC : Nat → Prop) (lC : List Nat) (hC : Nat) (gE : Nat → Prop) (lE : List Nat) (hE : Nat), m' < m → M1 1 = M2 1 → KLo p t i M1 → KLo p t i M2 → M1 7 = nI b1 → M2 7 = nI b2 → M1 8 = nI q1 → M2 8 = nI q2 → HG gA' BA' hA' r1.2 ρ1 gC lC hC → HG gB' BB' hB' r2.2 ρ2 gE lE hE → FW (t + 2) r1.2 ρ1 → FW (t + 2) r2.2 ρ2 → ρ1.1 59 = nI (t + 2) → MI (t + 2) XA gC lC BA' hC ρ1 → MI (t + 2) XB gE lE BB' hE ρ2 → RA (t + 2) gC gE ρ1 ρ2 → ρ1.1 56 = 0 → ρ2.1 56 = 0 → hC ≤ hA' + 16408 → hE ≤ hB' + 16408 → Pm m' (fun k => x_reduce k 9 M1 ρ1) (fun k => x_reduce k 9 M2 ρ2) (KR 8600) ∧ Pm m' (fun k => x_reduce k 10 M1 ρ1) (fun k => x_reduce k 10 M2 ρ2) (KR 8600) := by
    intro m' M1 M2 ρ1 ρ2 gC lC hC gE lE hE hm' j1 hM1 hM2 j7 l7 j8 l8 p1 p2 p3 p4 p5 p10 p11 p12 z1 z2 zc1 zc2
    have g1 : ρ1.2.2 29 t = nI u1 := (p3.2.2 t (by omega)).trans y1
    have g2 : ρ2.2.2 29 t = nI u2 := (p4.2.2 t (by omega)).trans y2
    have hOE : OE gC gE (ρ1.2.2 28) (ρ2.2.2 28) u1 u2 kk p := by
      have va := VC_gr a1.1 p1 (x := nI u1) ⟨u1, rfl, Or.inr gu1⟩
      have vb := p12.1 29 t (Or.inl ⟨rfl, by omega⟩) (by unfold VwR; omega)
      rw [g1, g2] at vb
      obtain ⟨w1, w2, ww1, ww2, hE⟩ := OE_eo p1.1 p2.1 hO0 (by omega) va vb
      have x1 := hE.2.2.2.2.2.2.2.2.2.2.2.2.1
      have x2 := hE.2.2.2.2.2.2.2.2.2.2.2.2.2.1
      have e1 : u1 = w1 := (n_eq (by omega) (by omega)).mp ww1
      have e2 : u2 = w2 := (n_eq (by omega) (by omega)).mp ww2
      subst e1
      subst e2
      exact hE
    have hx1 : ρ1.2.2 29 (t + 1) = nI b1 := (p3.2.2 (t + 1) (by omega)).trans bb1
    have hx2 : ρ2.2.2 29 (t + 1) = nI b2 := (p4.2.2 (t + 1) (by omega)).trans bb3
    have vb1 : BA' + 4 ≤ u1 ∧ u1 + 4 + p ≤ hA' := by
      obtain ⟨k', n', s', w', z1, z2, z3⟩ := HS_at a1.1 gu1
      have hn := z1.2.2.2.2.2.2.2.1
      have h1 := z1.2.1
      rw [o11] at h1
      have := (n_eq (by omega) (by omega)).mp h1
      omega
    have vb2 : BB' + 4 ≤ u2 ∧ u2 + 4 + p ≤ hB' := by
      obtain ⟨k', n', s', w', z1, z2, z3⟩ := HS_at a2.1 gu2
      have hn := z1.2.2.2.2.2.2.2.1
      have h1 := z1.2.1
      rw [o12] at h1
      have := (n_eq (by omega) (by omega)).mp h1
      omega
    have hm1 : ρ1.2.2 28 (u1 + 4 + i) = nI q1 := (p1.2.2.2 _ (by omega) (by omega)).trans qq1
    have hm2 : ρ2.2.2 28 (u2 + 4 + i) = nI q2 := (p2.2.2.2 _ (by omega) (by omega)).trans qq3
    have fin : ∀ (m'' : Nat) (O1 O2 : Nat → Int32), m'' < m → O1 1 = O2 1 → KLo p t i O1 → KLo p t i O2 → ((O1 100 = nI b1 ∧ O2 100 = nI b2) ∨ (O1 100 = nI q1 ∧ O2 100 = nI q2)) → Pm m'' (fun k => x_reduce k 11 O1 ρ1) (fun k => x_reduce k 11 O2 ρ2) (KR 8600) := by
      intro m'' O1 O2 hm'' k1 hO1 hO2 hor
      refine Pm_suc rfl (fun k => by rw [x_reduce]) (fun k => by rw [x_reduce]) (fun k3 hk3 => ?_)
      refine c12 k3 w _ _ ρ1 ρ2 gC lC BA' hC XA gE lE BB' hE XB (by omega) k1 hO1 hO2 ?_
      show KRd t p w XC (mAr ρ1 29 (t + 1) (O1 100)) (mAr ρ2 29 (t + 1) (O2 100)) _ _ _ _ _ _ _ _ _ _
      have vc : VC gC gE (ρ1.2.2 28) (ρ2.2.2 28) (O1 100) (O2 100) := by
        rcases hor with ⟨x, y⟩ | ⟨x, y⟩
        · rw [x, y, ← hx1, ← hx2]
          exact p12.1 29 (t + 1) (Or.inl ⟨rfl, by omega⟩) (by unfold VwR; omega)
        · rw [x, y, ← hm1, ← hm2]
          exact hOE.2.2.2.2.2.2.2.2.2.2.2.2.2.2.2.1 hk5 i hip
      refine ⟨MI_pick p10 g1 hOE.1 (by rw [hOE.2.2.2.2.2.2.1]; exact hk5) hOE.2.2.2.2.2.2.2.2.2.2.1 hp3 hip hm1 (qq2.imp id (p1.2.1 q1)) (by rw [hx1]; exact hor.imp (fun z => z.1) (fun z => z.1)), MI_pick p11 g2 hOE.2.1 (by rw [hOE.2.2.2.2.2.2.2.1]; exact hk5) hOE.2.2.2.2.2.2.2.2.2.2.2.1 hp3 hip hm2 (qq4.imp id (p2.2.1 q2)) (by rw [hx2]; exact hor.imp (fun z => z.2) (fun z => z.2)), RA_set (w1 := 0) (w2 := 0) p10.2.1 (RA_mo (show t + 1 ≤ t + 2 by omega) p12) vc, ⟨u1, u2, kk, ?_, ?_, hk5, ?_⟩, p5, z1, z2, (p3.1 57 (by decide)).trans d57, ⟨hw.1, by omega, by omega⟩, x1, x2⟩
      · rw [mAr_s, upd_other (by omega)]; exact g1
      · rw [mAr_s, upd_other (by omega)]; exact g2
      · rw [mAr_o (by decide), mAr_o (by decide)]; exact hOE
    constructor
    · refine Pm_suc rfl (fun k => by rw [x_reduce]) (fun k => by rw [x_reduce]) (fun k2 hk2 => ?_)
      exact fin k2 _ _ (by omega) j1 hM1 hM2 (Or.inr ⟨j8, l8⟩)
    · refine Pm_suc rfl (fun k => by rw [x_reduce]) (fun k => by rw [x_reduce]) (fun k2 hk2 => ?_)
      exact fin k2 _ _ (by omega) j1 hM1 hM2 (Or.inl ⟨j7, l7⟩)
  have tr2 : ∀ {gC gE : Nat → Prop} {H1 H2 : Nat → Int32} {x y : Int32}, VC gC gE H1 H2 x y → (x = 2 ↔ y = 2) := by
    intro gC gE H1 H2 x y h
    obtain ⟨c, d, c1, c2, c3, c4, c5, c6, c7⟩ := h
    rw [c1, c3]
    constructor
    · intro z
      have z := (n_eq (q := 2) (by omega) (by decide)).mp z
      rcases EVb_3 c5 with y | y
      · rw [y.2, z]; rfl
      · omega
    · intro z
      have z := (n_eq (q := 2) (by omega) (by decide)).mp z
      rcases EVb_3 c5 with y | y
      · rw [← y.2, z]; rfl
      · omega
  have b10E : ∀ (m' : Nat) (M1 M2 : Nat → Int32) (ρ1 ρ2 : MS), M1 4 = M2 4 → M1 6 = M2 6 → ¬ ρ1.1 56 = 0 → ¬ ρ2.1 56 = 0 → Pm m' (fun k => x_reduce k 10 M1 ρ1) (fun k => x_reduce k 10 M2 ρ2) (KR 8600) ∧ Pm m' (fun k => x_reduce k 9 M1 ρ1) (fun k => x_reduce k 9 M2 ρ2) (KR 8600) := by
    intro m' M1 M2 ρ1 ρ2 j4 j6 z1 z2
    constructor
    · refine Pm_suc rfl (fun k => by rw [x_reduce]) (fun k => by rw [x_reduce]) (fun k2 hk2 => ?_)
      refine Pm_suc rfl (fun k => by rw [x_reduce]) (fun k => by rw [x_reduce]) (fun k3 hk3 => ?_)
      exact k_red12E j4 j6 z1 z2
    · refine Pm_suc rfl (fun k => by rw [x_reduce]) (fun k => by rw [x_reduce]) (fun k2 hk2 => ?_)
      refine Pm_suc rfl (fun k => by rw [x_reduce]) (fun k => by rw [x_reduce]) (fun k3 hk3 => ?_)
      exact k_red12E j4 j6 z1 z2
  have b5 : ∀ (m' : Nat) (M1 M2 : Nat → Int32), m' < m → M1 1 = M2 1 → KLo p t i M1 → KLo p t i M2 → M1 7 = nI b1 → M2 7 = nI b2 → M1 8 = nI q1 → M2 8 = nI q2 → Pm m' (fun k => x_reduce k 5 M1 r1.2) (fun k => x_reduce k 5 M2 r2.2) (KR 8600) := by
    intro m' M1 M2 hm' j1 hM1 hM2 j7 l7 j8 l8
    refine Pm_suc rfl (fun k => by rw [x_reduce]) (fun k => by rw [x_reduce]) (fun k2 hk2 => ?_)
    refine Pm_ob (opr k2 _ _ r1.2 r2.2 gA' lA' hA' gB' lB' hB' b1 b2 q1 q2 a1 a2 a3 d59 f59 d56 f56 (by omega) (by omega) ⟨b1, b2, rfl, bb2, rfl, bb4, bb5, bb6, bb7⟩ ⟨q1, q2, rfl, qq2, rfl, qq4, qq5, qq6, qq7⟩ bb6 bb7 qq6 qq7 rfl j7 l7 j8 l8 (fun j hj => ?_)) (fun s1 s2 hs => ?_)
    · rw [upd_other (by omega), upd_other (by omega), upd_other (by omega), upd_other (by omega), upd_other (by omega), upd_other (by omega)]
    obtain ⟨ee, hs⟩ := hs
    have b7 : ∀ (m'' : Nat) (O1 O2 : Nat → Int32), m'' < m → O1 1 = O2 1 → KLo p t i O1 → KLo p t i O2 → O1 7 = nI b1 → O2 7 = nI b2 → O1 8 = nI q1 → O2 8 = nI q2 → O1 9 = s1.1 → O2 9 = s2.1 → O1 100 = O2 100 → Pm m'' (fun k => x_reduce k 7 O1 s1.2) (fun k => x_reduce k 7 O2 s2.2) (KR 8600) := by
      intro m'' O1 O2 hm'' k1 hO1 hO2 o7 l7 o8 l8 o9 l9 o100
      refine Pm_suc rfl (fun k => by rw [x_reduce]) (fun k => by rw [x_reduce]) (fun k3 hk3 => ?_)
      rw [o9, l9, o100]
      refine Pm_ite ee (fun er er2 => ?_) (fun er er2 => (b10E k3 (upd O1 10 (O2 100)) (upd O2 10 (O2 100)) _ _ (hO1.1.trans hO2.1.symm) (hO1.2.2.trans hO2.2.2.symm) er er2).1)
      obtain ⟨gC, lC, hC, gE, lE, hE, p1, p2, p3, p4, p5, p6, p7, p8, p9, p10, p11, p12⟩ := hs er
      have fin := b9 k3 (upd O1 10 (O2 100)) (upd O2 10 (O2 100)) s1.2 s2.2 gC lC hC gE lE hE (by omega) k1 hO1 hO2 o7 l7 o8 l8 p1 p2 p3 p4 p5 p10 p11 p12 er er2 (by omega) (by omega)
      refine Pm_ite Iff.rfl (fun _ _ => ?_) (fun _ _ => Pm_ite (tr2 p7) (fun _ _ => fin.1) (fun _ _ => fin.2))
      refine Pm_suc rfl (fun k => by rw [x_reduce]) (fun k => by rw [x_reduce]) (fun k4 hk4 => ?_)
      have vz : VC gC gE (s1.2.2.2 28) (s2.2.2.2 28) (nI q1) (nI q2) := VC_g2 a1.1 a2.1 p1 p2 ⟨q1, q2, rfl, qq2, rfl, qq4, qq5, qq6, qq7⟩
      have vs : VC gC gE (s1.2.2.2 28) (s2.2.2.2 28) (nI b1) (nI b2) := VC_g2 a1.1 a2.1 p1 p2 ⟨b1, b2, rfl, bb2, rfl, bb4, bb5, bb6, bb7⟩
      refine Pm_ob (opr k4 _ _ s1.2 s2.2 gC lC hC gE lE hE q1 q2 b1 b2 p10 p11 p12 p5 p6 er er2 p8 p9 vz vs qq6 qq7 bb6 bb7 rfl o8 l8 o7 l7 (fun j hj => ?_)) (fun z1 z2 hz => ?_)
      · rw [upd_other (by omega), upd_other (by omega), upd_other (by omega), upd_other (by omega), upd_other (by omega), upd_other (by omega)]
      obtain ⟨ff, hz⟩ := hz
      by_cases fr : z1.2.1 56 = 0
      · obtain ⟨gF, lF, hF, gH, lH, hH, r1', r2', r3', r4', r5', r6', r7', r8', r9', r10', r11', r12'⟩ := hz fr
        have fin2 := b9 k4 (upd O1 10 (O2 100)) (upd O2 10 (O2 100)) z1.2 z2.2 gF lF hF gH lH hH (by omega) k1 hO1 hO2 o7 l7 o8 l8 (HG_tr p1 r1') (HG_tr p2 r2') (FW_tr p3 r3') (FW_tr p4 r4') r5' r10' r11' r12' fr (ff.mp fr) (by omega) (by omega)
        exact Pm_ite (tr2 r7') (fun _ _ => fin2.1) (fun _ _ => fin2.2)
      · have fr2 : ¬ z2.2.1 56 = 0 := fun y => fr (ff.mpr y)
        have fe := b10E k4 (upd O1 10 (O2 100)) (upd O2 10 (O2 100)) z1.2 z2.2 (hO1.1.trans hO2.1.symm) (hO1.2.2.trans hO2.2.2.symm) fr fr2
        refine Pm_ite4 (fun _ _ => fe.2) (fun _ _ => ?_) (fun _ _ => ?_) (fun _ _ => fe.1)
        · refine Pm_suc rfl (fun k => by rw [x_reduce]) (fun k => by rw [x_reduce]) (fun k5 hk5 => ?_)
          refine Pm_suc rfl (fun k => by rw [x_reduce]) (fun k => by rw [x_reduce]) (fun k6 hk6 => ?_)
          exact k_red12E (hO1.1.trans hO2.1.symm) (hO1.2.2.trans hO2.2.2.symm) fr fr2
        · refine Pm_suc rfl (fun k => by rw [x_reduce]) (fun k => by rw [x_reduce]) (fun k5 hk5 => ?_)
          refine Pm_suc rfl (fun k => by rw [x_reduce]) (fun k => by rw [x_reduce]) (fun k6 hk6 => ?_)
          exact k_red12E (hO1.1.trans hO2.1.symm) (hO1.2.2.trans hO2.2.2.symm) fr fr2
    rw [j1]
    refine Pm_ite Iff.rfl (fun _ _ => b7 k2 _ _ (by omega) j1 hM1 hM2 j7 l7 j8 l8 rfl rfl rfl) (fun _ _ => ?_)
    refine Pm_suc rfl (fun k => by rw [x_reduce]) (fun k => by rw [x_reduce]) (fun k3 hk3 => ?_)
    exact b7 k3 _ _ (by omega) j1 hM1 hM2 j7 l7 j8 l8 rfl rfl rfl
  refine Pm_ite Iff.rfl (fun _ _ => b4 k1 _ _ (by omega) n1 hN1 hN2 rfl rfl rfl rfl) (fun _ _ => ?_)
  exact Pm_ite Iff.rfl (fun _ _ => b4 k1 _ _ (by omega) n1 hN1 hN2 rfl rfl rfl rfl) (fun _ _ => b5 k1 _ _ (by omega) n1 hN1 hN2 rfl rfl rfl rfl)
end KRD
end JnS198
section JnS199
/-! Two runs side by side (reference): reductions from their start; single operations. -/
section KSI
variable {g1 g2 : Nat → Prop} {l1 l2 : List Nat} {B1 h1 B2 h2 n t w X1 X2 XC : Nat} {σ1 σ2 : MS}
theorem RA_59 {x : Int32} (hR : RA t g1 g2 σ1 σ2) : RA t g1 g2 (mSc σ1 59 x) (mSc σ2 59 x) := by
  refine RA_c hR rfl rfl rfl rfl rfl rfl rfl rfl (fun j hj => ?_) hR.2.2.2
  show upd σ1.1 59 x j = upd σ2.1 59 x j
  by_cases e : j = 59
  · rw [e, upd_same, upd_same]
  · rw [upd_other e, upd_other e]; exact hR.2.2.1 j hj
theorem RA_pu {x y : Int32} (hQ : RtQ σ1) (hR : RA t g1 g2 σ1 σ2) (hv : VC g1 g2 (σ1.2.2 28) (σ2.2.2 28) x y) : RA (t + 1) g1 g2 (mPu σ1 t x) (mPu σ2 t y) := RA_59 (RA_set (w1 := 0) (w2 := 0) hQ hR hv)
theorem k_reduce {v1 v2 : Nat} (m1 : MI (t + 1) X1 g1 l1 B1 h1 σ1) (m2 : MI (t + 1) X2 g2 l2 B2 h2 σ2) (hR : RA (t + 1) g1 g2 σ1 σ2) (p1 : σ1.2.2 29 t = nI v1) (p2 : σ2.2.2 29 t = nI v2) (hv1 : v1 < 3 ∨ g1 v1) (hv2 : v2 < 3 ∨ g2 v2) (t1 : σ1.1 59 = nI t) (ht : t ≤ 176000) (hXC : XC ≤ 408500) (e1 : σ1.1 56 = 0) (e2 : σ2.1 56 = 0) (w1 : σ1.1 57 = nI w) (hw : w ≤ 60000) (x1 : X1 ≤ XC + 6 * w) (x2 : X2 ≤ XC + 6 * w) (hr1 : h1 + 79000 ≤ B1 + 870000) (hr2 : h2 + 79000 ≤ B2 + 870000) {L1 L2 : Nat → Int32} (d0 : L1 1 = L2 1) (d1 : L1 2 = nI v1) (d2 : L2 2 = nI v2) : Pm n (fun k => x_reduce k 0 L1 σ1) (fun k => x_reduce k 0 L2 σ2) (KR 8600) := by
  have hS1 := m1.1
  have hS2 := m2.1
  have t2 : σ2.1 59 = nI t := (hR.2.2.1 59 (by unfold AlS; omega)).symm.trans t1
  have w2 : σ2.1 57 = nI w := (hR.2.2.1 57 (by unfold AlS; omega)).symm.trans w1
  have hV : VC g1 g2 (σ1.2.2 28) (σ2.2.2 28) (nI v1) (nI v2) := by
    have := hR.1 29 t (Or.inl ⟨rfl, by omega⟩) (by unfold VwR; omega)
    rw [p1, p2] at this
    exact this
  have bv1 := HS_vb hS1 hv1
  have bv2 := HS_vb hS2 hv2
  have hv : EVb (σ1.2.2 28) (σ2.2.2 28) v1 v2 := by
    obtain ⟨c, d, c1, _, c3, _, c5, c6, c7⟩ := hV
    have a : v1 = c := (n_eq (by omega) (by omega)).mp c1
    have b : v2 = d := (n_eq (by omega) (by omega)).mp c3
    rw [a, b]; exact c5
  have kv := kdN_6 hS1 hv1
  have b1 : 5 ≤ kdN (σ1.2.2 28) v1 → ∀ (m : Nat) (N1 N2 : Nat → Int32), N1 1 = N2 1 → N1 2 = nI v1 → N2 2 = nI v2 → Pm m (fun k => x_reduce k 1 N1 σ1) (fun k => x_reduce k 1 N2 σ2) (KR 8600) := by
    intro k5 m N1 N2 n1 n2 o2
    obtain ⟨kk, p, hO⟩ := OE_of hS1 hS2 (kdN_ge hS1 hv1 (by omega)) hv2 hv
    have hO0 := hO
    obtain ⟨gv1, gv2, o3, o4, _, o6, o7, o8, o9, o10, o11, o12, o13, o14, o15, o16, o17⟩ := hO
    refine Pm_suc rfl (fun k => by rw [x_reduce]) (fun k => by rw [x_reduce]) (fun k1 _ => ?_)
    rw [n2, o2, n_add1, n_add1, n_cl (p := v1 + 1) (by omega), n_cl (p := v2 + 1) (by omega), o11, o12]
    refine Pm_chk (fun _ _ => ?_)
    refine Pm_ite Iff.rfl (fun _ _ => ?_) (fun z _ => ?_)
    · exact Pm_some ⟨⟨fun _ => e2, fun _ => e1⟩, fun _ => ⟨⟨Rm_HS hS1 (by omega), Rm_HS hS2 (by omega)⟩, w1.trans w2.symm, 0, 0, rfl, rfl, by decide, by decide, EVb_0 (by decide)⟩⟩
    have hp1 : 0 < p := by
      by_cases e : p = 0
      · exact absurd (by rw [e]; rfl) z
      · omega
    obtain ⟨q1, q2, qq1, qq2, qq3, qq4, qq5, qq6, qq7⟩ := o16 (by omega) 0 hp1
    have qq1 : σ1.2.2 28 (v1 + 4) = nI q1 := qq1
    have qq3 : σ2.2.2 28 (v2 + 4) = nI q2 := qq3
    refine Pm_suc rfl (fun k => by rw [x_reduce]) (fun k => by rw [x_reduce]) (fun k2 _ => ?_)
    refine Pm_ob (Pm_t2 (s_push t1 (by omega) _) (fun k => f_push k _ _ _) (s_push t2 (by omega) _) (fun k => f_push k _ _ _)) (fun r1 r2 hr => ?_)
    rw [hr.1, hr.2]
    show Pm k2 (fun k => if ¬ (N1 2 + 4 < 0 ∨ 1740000 ≤ (N1 2 + 4).toNatClampNeg) then ob (x_push k 0 (upd (fun _ => 0) 1 ((mPu σ1 t (N1 2)).2.2 28 (N1 2 + 4).toNatClampNeg)) (mPu σ1 t (N1 2))) (fun r3 => x_reduce k 3 (upd (upd (upd N1 4 (nI p)) 5 (σ1.1 59)) 6 1) r3.2) else none) (fun k => if ¬ (N2 2 + 4 < 0 ∨ 1740000 ≤ (N2 2 + 4).toNatClampNeg) then ob (x_push k 0 (upd (fun _ => 0) 1 ((mPu σ2 t (N2 2)).2.2 28 (N2 2 + 4).toNatClampNeg)) (mPu σ2 t (N2 2))) (fun r3 => x_reduce k 3 (upd (upd (upd N2 4 (nI p)) 5 (σ2.1 59)) 6 1) r3.2) else none) _
    rw [n2, o2, show nI v1 + 4 = nI (v1 + 4) from n_add (q := 4) (by omega), show nI v2 + 4 = nI (v2 + 4) from n_add (q := 4) (by omega), n_cl (p := v1 + 4) (by omega), n_cl (p := v2 + 4) (by omega), show (mPu σ1 t (nI v1)).2.2 28 (v1 + 4) = nI q1 from (congrFun (mPu_o (by decide)) _).trans qq1, show (mPu σ2 t (nI v2)).2.2 28 (v2 + 4) = nI q2 from (congrFun (mPu_o (by decide)) _).trans qq3, t1, t2]
    refine Pm_chk (fun _ _ => ?_)
    have s1 : (mPu σ1 t (nI v1)).2.2 = σ1.2.2 := mAr_same p1
    have s2 : (mPu σ2 t (nI v2)).2.2 = σ2.2.2 := mAr_same p2
    have hM1 : MI (t + 1) X1 g1 l1 B1 h1 (mPu σ1 t (nI v1)) := MI_c m1 rfl rfl rfl rfl s1
    have hM2 : MI (t + 1) X2 g2 l2 B2 h2 (mPu σ2 t (nI v2)) := MI_c m2 rfl rfl rfl rfl s2
    have hR1 : RA (t + 1) g1 g2 (mPu σ1 t (nI v1)) (mPu σ2 t (nI v2)) := RA_pu m1.2.1 (RA_mo (by omega) hR) hV
    refine Pm_ob (Pm_t2 (s_push (σ := mPu σ1 t (nI v1)) (t := t + 1) rfl (by omega) _) (fun k => f_push k _ _ _) (s_push (σ := mPu σ2 t (nI v2)) (t := t + 1) rfl (by omega) _) (fun k => f_push k _ _ _)) (fun r1 r2 hr => ?_)
    rw [hr.1, hr.2]
    show Pm k2 (fun k => x_reduce k 3 _ (mPu (mPu σ1 t (nI v1)) (t + 1) (nI q1))) (fun k => x_reduce k 3 _ (mPu (mPu σ2 t (nI v2)) (t + 1) (nI q2))) _
    have a28 : (mPu σ1 t (nI v1)).2.2 28 = σ1.2.2 28 := congrFun s1 28
    have b28 : (mPu σ2 t (nI v2)).2.2 28 = σ2.2.2 28 := congrFun s2 28
    have rs1 : RoS (t + 1) (mPu σ1 t (nI v1)) v1 := ⟨by omega, by omega, 29, t, Or.inl ⟨rfl, by omega⟩, by rw [s1]; exact p1⟩
    have rs2 : RoS (t + 1) (mPu σ2 t (nI v2)) v2 := ⟨by omega, by omega, 29, t, Or.inl ⟨rfl, by omega⟩, by rw [s2]; exact p2⟩
    have hM3 : MI (t + 2) X1 g1 l1 B1 h1 (mPu (mPu σ1 t (nI v1)) (t + 1) (nI q1)) := MI_pur hM1 (Rch_mem hM1.1 (Rch_b rs1) (by rw [a28]; exact k5) gv1 (by rw [a28]; exact o11) o6 (i := 0) hp1 (by rw [a28]; exact qq1) qq2)
    have hM4 : MI (t + 2) X2 g2 l2 B2 h2 (mPu (mPu σ2 t (nI v2)) (t + 1) (nI q2)) := MI_pur hM2 (Rch_mem hM2.1 (Rch_b rs2) (by rw [b28, o8]; omega) gv2 (by rw [b28]; exact o12) o6 (i := 0) hp1 (by rw [b28]; exact qq3) qq4)
    have hR2 : RA (t + 2) g1 g2 (mPu (mPu σ1 t (nI v1)) (t + 1) (nI q1)) (mPu (mPu σ2 t (nI v2)) (t + 1) (nI q2)) := RA_pu hM1.2.1 hR1 (by rw [a28, b28]; exact ⟨q1, q2, rfl, qq2, rfl, qq4, qq5, qq6, qq7⟩)
    have c28 : (mPu (mPu σ1 t (nI v1)) (t + 1) (nI q1)).2.2 28 = σ1.2.2 28 := (mPu_o (by decide)).trans a28
    have d28 : (mPu (mPu σ2 t (nI v2)) (t + 1) (nI q2)).2.2 28 = σ2.2.2 28 := (mPu_o (by decide)).trans b28
    refine k_red3 ht hXC k2 1 w _ _ _ _ g1 l1 B1 h1 X1 g2 l2 B2 h2 X2 hp1 n1 ⟨rfl, rfl, rfl⟩ ⟨rfl, rfl, rfl⟩ ⟨hM3, hM4, hR2, ⟨v1, v2, kk, ?_, ?_, by omega, ?_⟩, rfl, e1, e2, w1, ⟨hw, by omega, by omega⟩, x1, x2⟩
    · rw [mPu_29, upd_other (by omega), s1]; exact p1
    · rw [mPu_29, upd_other (by omega), s2]; exact p2
    · rw [c28, d28]; exact hO0
  refine Pm_suc rfl (fun k => by rw [x_reduce]) (fun k => by rw [x_reduce]) (fun k1 _ => ?_)
  refine Pm_ob (Pm_t2 (s_kind hS1 hv1 (by exact d1)) (fun k => f_kind k _ _ _) (s_kind hS2 hv2 (by exact d2)) (fun k => f_kind k _ _ _)) (fun r1 r2 hr => ?_)
  rw [hr.1, hr.2, (EVb_sz hv).2.2]
  refine Pm_ite Iff.rfl (fun z _ => b1 ?_ _ _ _ d0 d1 d2) (fun _ _ => ?_)
  · have := (n_eq (q := 6) (by omega) (by decide)).mp z
    omega
  refine Pm_ite Iff.rfl (fun z _ => b1 ?_ _ _ _ d0 d1 d2) (fun _ _ => ?_)
  · have := (n_eq (q := 5) (by omega) (by decide)).mp z
    omega
  refine Pm_ob (Pm_t2 (s_wrongKind _) (fun k => f_wrongKind k _ _ _) (s_wrongKind _) (fun k => f_wrongKind k _ _ _)) (fun r1 r2 hr => ?_)
  rw [hr.1, hr.2]
  exact Pm_some (KR_er (mEr_e (by decide)) (mEr_e (by decide)))
/-- alike, the seeds too -/
def KS (c : Nat) (r1 r2 : Int32 × MS) : Prop := KR c r1 r2 ∧ r1.2.2.1 96 = r2.2.2.1 96
theorem k_single {v1 v2 c : Nat} (hnt : 1 ≤ c ∧ c < (σ1.1 22).toNatClampNeg) (m1 : MI (t + 1) X1 g1 l1 B1 h1 σ1) (m2 : MI (t + 1) X2 g2 l2 B2 h2 σ2) (hR : RA (t + 1) g1 g2 σ1 σ2) (hT : TyT (σ1.2.2 2)) (hT2 : σ1.2.2 2 = σ2.2.2 2) (p1 : σ1.2.2 29 t = nI v1) (p2 : σ2.2.2 29 t = nI v2) (hv1 : v1 < 3 ∨ g1 v1) (hv2 : v2 < 3 ∨ g2 v2) (hv : EVb (σ1.2.2 28) (σ2.2.2 28) v1 v2) (t1 : σ1.1 59 = nI t) (ht : t ≤ 176000) (hXC : XC ≤ 408500) (e1 : σ1.1 56 = 0) (e2 : σ2.1 56 = 0) (w1 : σ1.1 57 = nI w) (hw : w ≤ 60000) (x1 : X1 ≤ XC + 6 * w) (x2 : X2 ≤ XC + 6 * w) (hr1 : h1 + 79000 ≤ B1 + 870000) (hr2 : h2 + 79000 ≤ B2 + 870000) {L1 L2 : Nat → Int32} (hc : c < 70000) (d1 : L1 1 = nI c) (f1 : L2 1 = nI c) (d2 : L1 2 = nI v1) (f2 : L2 2 = nI v2) : Pm n (fun k => x_single k 0 L1 σ1) (fun k => x_single k 0 L2 σ2) (KS 8600) := by
  have hS1 := m1.1
  have hS2 := m2.1
  have t2 : σ2.1 59 = nI t := (hR.2.2.1 59 (by unfold AlS; omega)).symm.trans t1
  have w2 : σ2.1 57 = nI w := (hR.2.2.1 57 (by unfold AlS; omega)).symm.trans w1
  have r4 : σ1.2.2 4 c = σ2.2.2 4 c := hR.2.1 4 c (by unfold AlR; omega) (by unfold Zn; omega) (InA_n (by omega) hnt)
  have r5 : σ1.2.2 5 c = σ2.2.2 5 c := hR.2.1 5 c (by unfold AlR; omega) (by unfold Zn; omega) (InA_n (by omega) hnt)
  have hP1 : VP g1 l1 B1 h1 t σ1 := ⟨hS1, t1, by omega, ⟨0, e1, by decide⟩⟩
  have hP2 : VP g2 l2 B2 h2 t σ2 := ⟨hS2, t2, by omega, ⟨0, e2, by decide⟩⟩
  have q57 : ∀ {W1 W2 : Nat} {r1 r2 : Int32 × MS}, VQ g1 B1 h1 t W1 σ1 r1 → VQ g2 B2 h2 t W2 σ2 r2 → r1.2.1 57 = r2.2.1 57 := by
    intro W1 W2 r1 r2 a b
    obtain ⟨_, _, _, _, a2, _⟩ := a
    obtain ⟨_, _, _, _, b2, _⟩ := b
    rw [a2.1 57 (by decide), b2.1 57 (by decide), w1, w2]
  refine Pm_suc rfl (fun k => by rw [x_single]) (fun k => by rw [x_single]) (fun k1 _ => ?_)
  rw [d1, f1, n_cl (p := c) (by omega), r4]
  refine Pm_chk (fun _ _ => ?_)
  refine Pm_ite Iff.rfl (fun _ _ => ?_) (fun _ _ => ?_)
  · refine Pm_suc rfl (fun k => by rw [x_single]) (fun k => by rw [x_single]) (fun k2 _ => ?_)
    rw [d1, f1, n_cl (p := c) (by omega), r5]
    refine Pm_chk (fun _ _ => ?_)
    refine Pm_ob (Pm_un (s_function hP1 hT hv1 (by exact d2)) (fun k => f_function k _ _ _) (s_function hP2 (by rw [← hT2]; exact hT) hv2 (by exact f2)) (fun k => f_function k _ _ _) (k_function hS1 hS2 e1 e2 t1 t2 (by omega) (by omega) (by omega) hv1 hv2 hv hT2 hR.2.2.2 rfl (by exact d2) (by exact f2) (fun i hi => ?_))) (fun r1 r2 hr => Pm_some ⟨KR_of (VQ_54 hr.2.1) (VQ_54 hr.2.2) (by omega) hr.1.1 (q57 hr.2.1 hr.2.2), hr.1.2⟩)
    rw [upd_other (by omega), upd_other (by omega), upd_other (by omega), upd_other (by omega)]
  refine Pm_ite Iff.rfl (fun _ _ => ?_) (fun _ _ => ?_)
  · refine Pm_suc rfl (fun k => by rw [x_single]) (fun k => by rw [x_single]) (fun k2 _ => ?_)
    exact Pm_ob (Pm_wl (fun k => wl_negative k _ _ _) (fun k => wl_negative k _ _ _) (Pm_un (s_negative hP1 hv1 (by exact d2)) (fun k => f_negative k _ _ _) (s_negative hP2 hv2 (by exact f2)) (fun k => f_negative k _ _ _) (k_negative hS1 hS2 e1 e2 (by omega) (by omega) hv1 hv2 hv (by exact d2) (by exact f2)))) (fun r1 r2 hr => Pm_some ⟨KR_of (VO_54 hr.1.2.1) (VO_54 hr.1.2.2) (by omega) hr.1.1 (q57 (VQ_of (w := 0) hr.1.2.1) (VQ_of (w := 0) hr.1.2.2)), by rw [hr.2.1, hr.2.2]; exact hR.2.2.2⟩)
  refine Pm_ite Iff.rfl (fun _ _ => ?_) (fun _ _ => ?_)
  · refine Pm_suc rfl (fun k => by rw [x_single]) (fun k => by rw [x_single]) (fun k2 _ => ?_)
    exact Pm_ob (Pm_wl (fun k => wl_many k _ _ _) (fun k => wl_many k _ _ _) (Pm_un (s_many hP1 hv1 (by exact d2)) (fun k => f_many k _ _ _) (s_many hP2 hv2 (by exact f2)) (fun k => f_many k _ _ _) (k_many hS1 hS2 e1 e2 (by omega) (by omega) hv1 hv2 hv (by exact d2) (by exact f2)))) (fun r1 r2 hr => Pm_some ⟨KR_of (VO_54 hr.1.2.1) (VO_54 hr.1.2.2) (by omega) hr.1.1 (q57 (VQ_of (w := 0) hr.1.2.1) (VQ_of (w := 0) hr.1.2.2)), by rw [hr.2.1, hr.2.2]; exact hR.2.2.2⟩)
  refine Pm_ite Iff.rfl (fun _ _ => ?_) (fun _ _ => ?_)
  · refine Pm_suc rfl (fun k => by rw [x_single]) (fun k => by rw [x_single]) (fun k2 _ => ?_)
    exact Pm_ob (Pm_wl (fun k => wl_turned k _ _ _) (fun k => wl_turned k _ _ _) (Pm_un (s_turned hP1 _) (fun k => f_turned k _ _ _) (s_turned hP2 _) (fun k => f_turned k _ _ _) (k_turned (K := 0) hS1 hS2 e1 e2 (HS_vb hS1 hv1) (HS_vb hS2 hv2) hv (by exact d2) (by exact f2)))) (fun r1 r2 hr => Pm_some ⟨KR_of (VO_54 hr.1.2.1) (VO_54 hr.1.2.2) (by omega) hr.1.1 (q57 (VQ_of (w := 0) hr.1.2.1) (VQ_of (w := 0) hr.1.2.2)), by rw [hr.2.1, hr.2.2]; exact hR.2.2.2⟩)
  · refine Pm_suc rfl (fun k => by rw [x_single]) (fun k => by rw [x_single]) (fun k2 _ => ?_)
    rw [d1, f1, n_cl (p := c) (by omega), r5]
    refine Pm_chk (fun _ _ => ?_)
    exact Pm_ob (Pm_wl (fun k => wl_reduce k _ _ _) (fun k => wl_reduce k _ _ _) (k_reduce m1 m2 hR p1 p2 hv1 hv2 t1 ht hXC e1 e2 w1 hw x1 x2 hr1 hr2 rfl (by exact d2) (by exact f2))) (fun r1 r2 hr => Pm_some ⟨hr.1, by rw [hr.2.1, hr.2.2]; exact hR.2.2.2⟩)
end KSI
end JnS199
section JnS200
/-! Evaluation on both sides (reference): the states, what stays, answers. -/
/-- open iterators: over rows, at a place of theirs -/
def IT (g : Nat → Prop) (σ : MS) : Prop := ∃ e, σ.1 72 = nI e ∧ e ≤ 4000 ∧ ∀ i, i < e → ∃ v k p, σ.2.2 34 i = nI v ∧ g v ∧ 4 ≤ kdN (σ.2.2 28) v ∧ σ.2.2 28 (v + 1) = nI p ∧ p ≤ 3996 ∧ σ.2.2 35 i = nI k ∧ k ≤ p
/-- both sides midway in an evaluation: t upon the pile, work w, no error -/
def EIx (t w XC : Nat) (σ1 σ2 : MS) (g1 : Nat → Prop) (l1 : List Nat) (B1 h1 X1 : Nat) (g2 : Nat → Prop) (l2 : List Nat) (B2 h2 X2 : Nat) : Prop := MI t X1 g1 l1 B1 h1 σ1 ∧ MI t X2 g2 l2 B2 h2 σ2 ∧ RA t g1 g2 σ1 σ2 ∧ IT g1 σ1 ∧ IT g2 σ2 ∧ σ1.1 59 = nI t ∧ σ1.1 56 = 0 ∧ σ2.1 56 = 0 ∧ σ1.1 57 = nI w ∧ (w ≤ 60000 ∧ h1 + (XC - 400000) + 10 ≤ B1 + 870000 ∧ h2 + (XC - 400000) + 10 ≤ B2 + 870000) ∧ X1 ≤ XC + 6 * w ∧ X2 ≤ XC + 6 * w ∧ (TyT (σ1.2.2 2) ∧ σ1.2.2 2 = σ2.2.2 2) ∧ ∃ a, σ1.1 95 = nI a ∧ a ≤ 1000000
def EI (t w XC : Nat) (σ1 σ2 : MS) : Prop := ∃ (g1 : Nat → Prop) (l1 : List Nat) (B1 h1 X1 : Nat) (g2 : Nat → Prop) (l2 : List Nat) (B2 h2 X2 : Nat), EIx t w XC σ1 σ2 g1 l1 B1 h1 X1 g2 l2 B2 h2 X2
/-- places of a run's values -/
def Rt4 (σ : MS) (a i : Nat) : Prop := (a = 30 ∧ StI (σ.2.2 30) 0 i) ∨ (a = 31 ∧ ∃ p, p < (σ.1 63).toNatClampNeg ∧ StI (σ.2.2 31) (11514 * p) i) ∨ (a = 33 ∧ i < 1380)
def szV (σ : MS) (a i : Nat) : Nat × Nat × Int32 := (szN (σ.2.2 28) (σ.2.2 a i).toNatClampNeg, kdN (σ.2.2 28) (σ.2.2 a i).toNatClampNeg, if (σ.2.2 a i).toNatClampNeg < 3 then 0 else σ.2.2 28 ((σ.2.2 a i).toNatClampNeg + 1))
/-- which slots count: flags of slots that are told (stale flags don't) -/
def kC (σ : MS) (i : Nat) : Int32 := if 2520 ≤ i ∨ hdU (σ.1 30) (σ.2.2 21) (i / 60) ≤ i % 60 then 0 else σ.2.2 20 i
theorem kC_d {σ ρ : MS} (h20 : ∀ i, i < 2520 → ρ.2.2 20 i = σ.2.2 20 i) (h21 : ∀ i, i < 42 → ρ.2.2 21 i = σ.2.2 21 i) (hc : ρ.1 30 = σ.1 30) (i : Nat) : kC ρ i = kC σ i := by
  unfold kC
  by_cases c : 2520 ≤ i
  · rw [if_pos (Or.inl c), if_pos (Or.inl c)]
  · rw [h20 i (by omega), hc, hdU_h (h21 (i / 60) (by omega))]
theorem kC_of {σ : MS} {i : Nat} (h : i < 2520) (h' : i % 60 < hdU (σ.1 30) (σ.2.2 21) (i / 60)) : kC σ i = σ.2.2 20 i := by
  unfold kC
  rw [if_neg (fun z => by omega)]
/-- alike: the same slots count -/
theorem kC_ra {t : Nat} {g1 g2 : Nat → Prop} {σ1 σ2 : MS} (hR : RA t g1 g2 σ1 σ2) (i : Nat) : kC σ2 i = kC σ1 i := by
  have hc : σ2.1 30 = σ1.1 30 := (hR.2.2.1 30 (by unfold AlS; omega)).symm
  unfold kC
  by_cases c : 2520 ≤ i
  · rw [if_pos (Or.inl c), if_pos (Or.inl c)]
  have e : hdU (σ2.1 30) (σ2.2.2 21) (i / 60) = hdU (σ1.1 30) (σ1.2.2 21) (i / 60) := by
    rw [hc]
    by_cases z : i / 60 ≤ (σ1.1 30).toNatClampNeg
    · exact hdU_h (hR.2.1 21 _ (by unfold AlR; omega) (by unfold Zn; omega) (InA_21 ⟨by omega, z⟩)).symm
    · unfold hdU; rw [if_neg z, if_neg z]
  rw [e]
  by_cases z : hdU (σ1.1 30) (σ1.2.2 21) (i / 60) ≤ i % 60
  · rw [if_pos (Or.inr z), if_pos (Or.inr z)]
  · rw [if_neg (fun y => by omega), if_neg (fun y => by omega)]
    exact (hR.2.1 20 i (by unfold AlR; omega) (by unfold Zn; omega) (InA_20 (by omega) (by omega))).symm
theorem kC_c {σ ρ : MS} (h20 : ∀ i, ρ.2.2 20 i = σ.2.2 20 i) (h21 : ∀ i, i < 42 → ρ.2.2 21 i = σ.2.2 21 i) (hc : ρ.1 30 = σ.1 30) (i : Nat) : kC ρ i = kC σ i := kC_d (fun i _ => h20 i) h21 hc i
theorem kC_r {σ ρ : MS} (h20 : ρ.2.2 20 = σ.2.2 20) (h21 : ρ.2.2 21 = σ.2.2 21) (hc : ρ.1 30 = σ.1 30) : kC ρ = kC σ := funext (kC_c (fun i => by rw [h20]) (fun i _ => by rw [h21]) hc)
theorem kC_in {σ : MS} {u s : Nat} (hs : s < 60) (h : s < (σ.2.2 21 u).toNatClampNeg) (hc : u ≤ (σ.1 30).toNatClampNeg) (hu : u < 42 := by omega) : kC σ (60 * u + s) = σ.2.2 20 (60 * u + s) := by
  unfold kC
  rw [show (60 * u + s) / 60 = u by omega, show (60 * u + s) % 60 = s by omega, show hdU (σ.1 30) (σ.2.2 21) u = (σ.2.2 21 u).toNatClampNeg from if_pos hc, if_neg (fun z => by omega)]
theorem kC_out {σ : MS} {u s : Nat} (hu : u < 42) (hs : s < 60) (h : (σ.2.2 21 u).toNatClampNeg ≤ s) : kC σ (60 * u + s) = 0 := by
  unfold kC
  rw [show (60 * u + s) / 60 = u by omega, show (60 * u + s) % 60 = s by omega, if_pos (Or.inr (by unfold hdU; split <;> omega))]
/-- places that don't count -/
def NU (σ : MS) (a i : Nat) : Prop := a = 33 ∨ (a = 30 ∧ ((4 ≤ i ∧ i < 64 ∧ kC σ (i - 4) = 0) ∨ (214 ≤ i ∧ i < 3214 ∧ kC σ (60 * (1 + (σ.2.2 30 (65 + 3 * ((i - 214) / 60))).toNatClampNeg) + (i - 214) % 60) = 0)))
/-- a place holds what it held -/
def SVb (σ ρ : MS) (a i : Nat) : Prop := EVb (σ.2.2 28) (ρ.2.2 28) (σ.2.2 a i).toNatClampNeg (ρ.2.2 a i).toNatClampNeg ∨ (ρ.2.2 28 = σ.2.2 28 ∧ ρ.2.2 a i = σ.2.2 a i)
theorem SVb_tr {σ τ ρ : MS} {x i : Nat} (a : SVb σ τ x i) (b : SVb τ ρ x i) : SVb σ ρ x i := by
  rcases b with b | ⟨b1, b2⟩
  · rcases a with a | ⟨a1, a2⟩
    · exact Or.inl (EVb_tr a b)
    · rw [a1, a2] at b; exact Or.inl b
  · rcases a with a | ⟨a1, a2⟩
    · refine Or.inl ?_
      rw [b1, b2]; exact a
    · exact Or.inr ⟨b1.trans a1, b2.trans a2⟩
/-- what places hold (but for those of N): a thing of the same size, or om in a place that doesn't count -/
def KPn (N : Nat → Nat → Prop) (σ ρ : MS) : Prop := ∀ a i, Rt4 σ a i → ¬ N a i → (szV ρ a i = szV σ a i ∧ (σ.2.2 a i = 0 → ρ.2.2 a i = 0) ∧ SVb σ ρ a i) ∨ (ρ.2.2 a i = 0 ∧ NU σ a i)
def FB0 (σ τ : MS) : Prop := τ.1 63 = σ.1 63 ∧ (∀ i, kC τ i = kC σ i) ∧ (∀ i, ¬ Zn 30 i → τ.2.2 30 i = σ.2.2 30 i) ∧ (∀ i, ¬ Zn 31 i → τ.2.2 31 i = σ.2.2 31 i)
abbrev NoN : Nat → Nat → Prop := fun _ _ => False
/-- what an evaluation leaves as it was: numbers, tables, iterators that were open; what places hold, but for those of N -/
def FEn (N : Nat → Nat → Prop) (σ ρ : MS) : Prop := (∀ j, AlS j → j ≠ 57 → j ≠ 59 → j ≠ 95 → ρ.1 j = σ.1 j) ∧ (∀ a i, AlR a → ¬ Zn a i → ¬ ((a = 35 ∨ a = 50) ∧ (σ.1 72).toNatClampNeg ≤ i) → ρ.2.2 a i = σ.2.2 a i) ∧ ρ.2.2 2 = σ.2.2 2 ∧ KPn N σ ρ
abbrev FE (σ ρ : MS) : Prop := FEn NoN σ ρ
/-- one side with an error: at least a, at most b upon the pile -/
def EZ (a b : Nat) (σ : MS) : Prop := ∃ (g : Nat → Prop) (l : List Nat) (B h t : Nat), MI t 870000 g l B h σ ∧ σ.1 59 = nI t ∧ a ≤ t ∧ t ≤ b ∧ ¬ σ.1 56 = 0 ∧ ErB σ ∧ (∃ w, σ.1 57 = nI w ∧ w ≤ 80000) ∧ ∃ c, σ.1 95 = nI c ∧ c ≤ 1000000
/-- behind an evaluation that began at t -/
def EQ (b t w XC : Nat) (σ1 σ2 : MS) (r1 r2 : Int32 × MS) : Prop := FE σ1 r1.2 ∧ FE σ2 r2.2 ∧ ((∃ w', w ≤ w' ∧ EI (t + 1) w' XC r1.2 r2.2) ∨ (EZ t b r1.2 ∧ EZ t b r2.2))
theorem szV_ev {H1 H2 : Nat → Int32} {m m' : Nat} (q5 : EVb H1 H2 m m') : (szN H2 m', kdN H2 m', if m' < 3 then 0 else H2 (m' + 1)) = (szN H1 m, kdN H1 m, if m < 3 then (0 : Int32) else H1 (m + 1)) := by
  obtain ⟨e1, _, e3⟩ := EVb_sz q5
  rw [e1, e3]
  by_cases c : m < 3
  · rcases EVb_VR q5 with z | z
    · rw [if_pos c, if_pos (by omega)]
    · omega
  · rcases EVb_VR q5 with z | z
    · omega
    · rw [if_neg c, if_neg (by omega), EVb_hd q5 (by omega) (i := 1) (by omega)]
section EVA
variable {g g' : Nat → Prop} {l l' : List Nat} {B h t X w : Nat} {σ τ ρ : MS}
theorem Rt4_b {a i : Nat} (h : FB0 σ τ) (hr : Rt4 σ a i) : Rt4 τ a i := by
  obtain ⟨h63, h20, h30, h31⟩ := h
  rcases hr with ⟨e, z⟩ | ⟨e, p, hp, z⟩ | z
  · refine Or.inl ⟨e, ?_⟩
    unfold StI at z ⊢
    rw [h30 (0 + 1) (by unfold Zn; omega), h30 (0 + 3) (by unfold Zn; omega)]; exact z
  · refine Or.inr (Or.inl ⟨e, p, by rw [h63]; exact hp, ?_⟩)
    unfold StI at z ⊢
    rw [h31 (11514 * p + 1) (by unfold Zn; omega), h31 (11514 * p + 3) (by unfold Zn; omega)]; exact z
  · exact Or.inr (Or.inr z)
theorem NU_b {a i : Nat} (h : FB0 σ τ) : NU τ a i ↔ NU σ a i := by
  obtain ⟨h63, h20, h30, h31⟩ := h
  unfold NU
  by_cases c : 214 ≤ i ∧ i < 3214
  · rw [h20, h20, h30 (65 + 3 * ((i - 214) / 60)) (by unfold Zn; omega)]
  · rw [h20]
    constructor
    · rintro (z | ⟨e, z | z⟩)
      · exact Or.inl z
      · exact Or.inr ⟨e, Or.inl z⟩
      · exact absurd ⟨z.1, z.2.1⟩ c
    · rintro (z | ⟨e, z | z⟩)
      · exact Or.inl z
      · exact Or.inr ⟨e, Or.inl z⟩
      · exact absurd ⟨z.1, z.2.1⟩ c
theorem KPn_tr {N : Nat → Nat → Prop} (h : FB0 σ τ) (a : KPn N σ τ) (b : KPn N τ ρ) : KPn N σ ρ := by
  intro x i hr hn
  rcases b x i (Rt4_b h hr) hn with ⟨b1, b2, b3⟩ | ⟨b1, b2⟩
  · rcases a x i hr hn with ⟨a1, a2, a3⟩ | ⟨a1, a2⟩
    · exact Or.inl ⟨b1.trans a1, fun z => b2 (a2 z), SVb_tr a3 b3⟩
    · exact Or.inr ⟨b2 a1, a2⟩
  · exact Or.inr ⟨b1, (NU_b h).mp b2⟩
theorem KPn_same {N : Nat → Nat → Prop} (h28 : ρ.2.2 28 = σ.2.2 28) (h : ∀ a, a = 30 ∨ a = 31 ∨ a = 33 → ρ.2.2 a = σ.2.2 a) : KPn N σ ρ := by
  intro a i hr hn
  have ha : a = 30 ∨ a = 31 ∨ a = 33 := by unfold Rt4 at hr; omega
  refine Or.inl ⟨?_, fun z => ?_, Or.inr ⟨h28, by rw [h a ha]⟩⟩
  · unfold szV; rw [h28, h a ha]
  · rw [h a ha]; exact z
theorem KPn_eo {N : Nat → Nat → Prop} (hE : EO t g σ g' ρ) : KPn N σ ρ := by
  intro a i hr hn
  have hR : RtP t σ a i := by
    rcases hr with z | z | z
    · exact Or.inr (Or.inl z)
    · exact Or.inr (Or.inr (Or.inl z))
    · exact Or.inr (Or.inr (Or.inr (Or.inl z)))
  obtain ⟨m, m', q1, q2, q3, q4, q5, q6, q7⟩ := hE.1 a i hR
  refine Or.inl ⟨?_, fun z => ?_, Or.inl (by rw [q1, q3, n_cl (by omega), n_cl (by omega)]; exact q5)⟩
  · unfold szV; rw [q1, q3, n_cl (by omega), n_cl (by omega)]; exact szV_ev q5
  · have e : m = 0 := (n_eq (q := 0) (by omega) (by decide)).mp (q1.symm.trans z)
    subst e
    have k : kdN (ρ.2.2 28) m' = 0 := by rw [(EVb_sz q5).2.2]; rfl
    rw [q3]
    rcases q4 with q4 | q4
    · unfold kdN at k
      by_cases c : m' = 0
      · rw [c]; rfl
      · rw [if_neg c, if_pos q4] at k; omega
    · by_cases c : m' = 0
      · rw [c]; rfl
      · exfalso
        by_cases c3 : m' < 3
        · unfold kdN at k; rw [if_neg c, if_pos c3] at k; omega
        · rcases EVb_VR q5 with z | z
          · omega
          · omega
theorem KPn_mo {N N' : Nat → Nat → Prop} (h : ∀ a i, N a i → N' a i) (k : KPn N σ ρ) : KPn N' σ ρ := fun a i hr hn => k a i hr (fun z => hn (h a i z))
theorem FEn_b {N : Nat → Nat → Prop} (a : FEn N σ τ) : FB0 σ τ := ⟨a.1 63 (by unfold AlS; omega) (by decide) (by decide) (by decide), kC_c (fun i => a.2.1 20 i (by unfold AlR; omega) (by unfold Zn; omega) (by omega)) (fun i _ => a.2.1 21 i (by unfold AlR; omega) (by unfold Zn; omega) (by omega)) (a.1 30 (by unfold AlS; omega) (by decide) (by decide) (by decide)), fun i h => a.2.1 30 i (by unfold AlR; omega) h (by omega), fun i h => a.2.1 31 i (by unfold AlR; omega) h (by omega)⟩
theorem FE_rf {N : Nat → Nat → Prop} : FEn N σ σ := ⟨fun _ _ _ _ _ => rfl, fun _ _ _ _ _ => rfl, rfl, KPn_same rfl (fun _ _ => rfl)⟩
theorem FE_tr {N : Nat → Nat → Prop} (a : FEn N σ τ) (b : FEn N τ ρ) : FEn N σ ρ := by
  have e : τ.1 72 = σ.1 72 := a.1 72 (by unfold AlS; omega) (by decide) (by decide) (by decide)
  refine ⟨fun j h1 h2 h3 h4 => (b.1 j h1 h2 h3 h4).trans (a.1 j h1 h2 h3 h4), fun x i h1 h2 h3 => ?_, b.2.2.1.trans a.2.2.1, KPn_tr (FEn_b a) a.2.2.2 b.2.2.2⟩
  rw [b.2.1 x i h1 h2 (by rw [e]; exact h3), a.2.1 x i h1 h2 h3]
theorem FE_n {N : Nat → Nat → Prop} (h : FE σ ρ) : FEn N σ ρ := ⟨h.1, h.2.1, h.2.2.1, KPn_mo (fun _ _ z => z.elim) h.2.2.2⟩
theorem FEn_mo {N N' : Nat → Nat → Prop} (hn : ∀ a i, N a i → N' a i) (h : FEn N σ ρ) : FEn N' σ ρ := ⟨h.1, h.2.1, h.2.2.1, KPn_mo hn h.2.2.2⟩
theorem FE_eo (hQ : RtQ σ) (hE : EO t g σ g' ρ) : FE σ ρ := by
  refine ⟨fun j h1 h2 h3 h4 => hE.2.2 j (by unfold AlS at h1; omega), fun a i h1 h2 _ => hE.2.1 a i (by unfold AlR at h1; omega) (fun z => h2 (Zn_rt hQ z h1)), ?_, KPn_eo hE⟩
  funext i
  exact hE.2.1 2 i (by omega) (by unfold RtP; omega)
/-- numbers alone -/
theorem FE_sc {j : Nat} {x : Int32} (hj : ¬ AlS j ∨ j = 57 ∨ j = 59 ∨ j = 95) : FE σ (mSc σ j x) := by
  refine ⟨fun i h1 h2 h3 h4 => upd_other (fun e => ?_), fun _ _ _ _ _ => rfl, rfl, KPn_same rfl (fun _ _ => rfl)⟩
  subst e
  rcases hj with z | z
  · exact z h1
  · omega
theorem FE_er {e : Int32} : FE σ (mEr σ e) := ⟨fun j h1 _ _ _ => mEr_s (by unfold AlS at h1; omega), fun _ _ _ _ _ => rfl, rfl, KPn_same rfl (fun _ _ => rfl)⟩
theorem FE_pile {i : Nat} {x : Int32} : FE σ (mAr σ 29 i x) := ⟨fun _ _ _ _ _ => rfl, fun a i h1 _ _ => by rw [mAr_o (by unfold AlR at h1; omega)], mAr_o (by decide), KPn_same (mAr_o (by decide)) (fun a h => mAr_o (by omega))⟩
theorem FE_pu {i : Nat} {x : Int32} : FE σ (mPu σ i x) := FE_tr FE_pile (FE_sc (Or.inr (Or.inr (Or.inl rfl))))
theorem FE_wk {n : Nat} (hW : WkO σ w n τ) : FE σ τ := by
  rcases hW with ⟨_, e⟩ | ⟨_, e⟩
  · rw [e]; exact FE_sc (Or.inr (Or.inl rfl))
  · rw [e]; exact FE_tr (FE_sc (Or.inr (Or.inl rfl))) FE_er
/-- a place of N is written -/
theorem FEn_ar {N : Nat → Nat → Prop} {a i : Nat} {x : Int32} (hz : Zn a i) (h33 : a = 30 ∨ a = 33) (h : N a i) : FEn N σ (mAr σ a i x) := by
  have ot : ∀ b j, ¬ (b = a ∧ j = i) → (mAr σ a i x).2.2 b j = σ.2.2 b j := fun b j hn => by
    by_cases c : b = a
    · subst c; rw [mAr_s, upd_other (fun e => hn ⟨rfl, e⟩)]
    · rw [mAr_o c]
  refine ⟨fun _ _ _ _ _ => rfl, fun b j h1 h2 _ => ot b j (fun z => h2 (by rw [z.1, z.2]; exact hz)), ?_, fun b j hr hn => ?_⟩
  · rw [mAr_o (by omega)]
  · have hne : ¬ (b = a ∧ j = i) := fun z => hn (by rw [z.1, z.2]; exact h)
    refine Or.inl ⟨?_, fun z => ?_, Or.inr ⟨mAr_o (by omega), ot b j hne⟩⟩
    · unfold szV; rw [ot b j hne, mAr_o (by omega)]
    · rw [ot b j hne]; exact z
/-- om is written into a place that doesn't count -/
theorem FE_ar0 {a i : Nat} (hz : Zn a i) (h33 : a = 30 ∨ a = 33) (h : NU σ a i) : FE σ (mAr σ a i 0) := by
  obtain ⟨f1, f2, f3, f4⟩ := FEn_ar (σ := σ) (N := fun b j => b = a ∧ j = i) (x := 0) hz h33 ⟨rfl, rfl⟩
  refine ⟨f1, f2, f3, fun b j hr _ => ?_⟩
  by_cases c : b = a ∧ j = i
  · rw [c.1, c.2]; exact Or.inr ⟨by rw [mAr_s, upd_same], h⟩
  · exact f4 b j hr c
theorem IT_eo (hQ : RtQ σ) (hS : HS g l B h σ) (hS' : HS g' l' B h ρ ∨ ∃ B' h', HS g' l' B' h' ρ) (hE : EO t g σ g' ρ) (hI : IT g σ) : IT g' ρ := by
  obtain ⟨B', h', hS'⟩ : ∃ B' h', HS g' l' B' h' ρ := by
    rcases hS' with z | z
    · exact ⟨B, h, z⟩
    · exact z
  obtain ⟨e, e1, e2, e3⟩ := hI
  have r72 : ρ.1 72 = σ.1 72 := hE.2.2 72 (by omega)
  refine ⟨e, r72.trans e1, e2, fun i hi => ?_⟩
  obtain ⟨v, k, p, v1, v2, v3, v4, v5, v6, v7⟩ := e3 i hi
  have hR : RtP t σ 34 i := by
    unfold RtP
    rw [e1, n_cl (p := e) (by omega)]
    exact Or.inr (Or.inr (Or.inr (Or.inr (Or.inl ⟨rfl, hi⟩))))
  obtain ⟨m, m', q1, q2, q3, q4, q5, q6, q7⟩ := hE.1 34 i hR
  have bv := HS_vb hS (Or.inr v2)
  have em : m = v := (n_eq (by omega) (by omega)).mp (q1.symm.trans v1)
  subst em
  have hk : 4 ≤ kdN (ρ.2.2 28) m' := by rw [(EVb_sz q5).2.2]; exact v3
  have m3 : 3 ≤ m := by
    obtain ⟨_, _, _, _, _, z, _⟩ := HS_at hS v2
    omega
  refine ⟨m', k, p, q3, kdN_ge hS' q4 (by omega), hk, (EVb_hd q5 m3 (i := 1) (by omega)).trans v4, v5, ?_, v7⟩
  rw [hE.2.1 35 i (by omega) (by unfold RtP; omega)]
  exact v6
theorem IT_c (h72 : τ.1 72 = σ.1 72) (h34 : τ.2.2 34 = σ.2.2 34) (h35 : τ.2.2 35 = σ.2.2 35) (h28 : τ.2.2 28 = σ.2.2 28) (hI : IT g σ) : IT g τ := by
  unfold IT; rw [h72, h34, h35, h28]; exact hI
/-- with an error: one more thing upon the pile -/
theorem EZ_pu {a b : Nat} {x : Int32} {t' : Nat} (hM : MI t' X g l B h σ) (h59 : σ.1 59 = nI t') (ha : a ≤ t') (hb : t' + 1 ≤ b) (he : ¬ σ.1 56 = 0) (hE : ErB σ) (hw : ∃ w, σ.1 57 = nI w ∧ w ≤ 80000) (hc : ∃ c, σ.1 95 = nI c ∧ c ≤ 1000000) (hx : Vd g x) : EZ a b (mPu σ t' x) := by
  obtain ⟨m, m1, m2⟩ := hx
  have hM1 : MI (t' + 1) (X + 6 * szN (σ.2.2 28) m) g l B h (mPu σ t' (nI m)) := MI_pu hM m2
  rw [m1]
  refine ⟨g, l, B, h, t' + 1, MI_any hM1.1 hM1.2.1 hM1.2.2.1, rfl, by omega, hb, ?_, ErB_c (mPu_s (by decide)) hE, ?_, ?_⟩
  · rw [mPu_s (by decide)]; exact he
  · rw [mPu_s (by decide)]; exact hw
  · rw [mPu_s (by decide)]; exact hc
end EVA
section EAN
variable {g1 g2 : Nat → Prop} {l1 l2 : List Nat} {B1 h1 B2 h2 X1 X2 t w XC : Nat} {ρ1 ρ2 : MS}
/-- an answer is counted and pushed -/
theorem E_ans {c : Nat} {Q : Int32 × MS → Int32 × MS → Prop} {F1 F2 : Nat → Int32 × MS → Option (Int32 × MS)} {r1 r2 : Int32 × MS} (m1 : MI t X1 g1 l1 B1 h1 ρ1) (m2 : MI t X2 g2 l2 B2 h2 ρ2) (hR : RA t g1 g2 ρ1 ρ2) (i1 : IT g1 ρ1) (i2 : IT g2 ρ2) (ht : t ≤ 176000 ∧ XC - 400000 + 10 ≤ c) (hT : TyT (ρ1.2.2 2)) (hT2 : ρ1.2.2 2 = ρ2.2.2 2) (ha : ∃ a, r1.2.1 95 = nI a ∧ a ≤ 1000000) (ha2 : r1.2.1 95 = r2.2.1 95)
    (s1 : SO t w XC g1 ρ1 r1) (s2 : SO t w XC g2 ρ2 r2) (hK : KS c r1 r2) (hQ : ∀ v1 v2 : Int32 × MS, FE ρ1 v1.2 → FE ρ2 v2.2 → ((∃ w', w ≤ w' ∧ EI (t + 1) w' XC v1.2 v2.2) ∨ (EZ t (t + 2001) v1.2 ∧ EZ t (t + 2001) v2.2)) → T2 (fun k => F1 k v1) (fun k => F2 k v2) Q) :
    T2 (fun k => ob (x_answer k 0 (upd (fun _ => 0) 1 r1.1) r1.2) (fun u => ob (x_push k 0 (upd (fun _ => 0) 1 u.1) u.2) (F1 k))) (fun k => ob (x_answer k 0 (upd (fun _ => 0) 1 r2.1) r2.2) (fun u => ob (x_push k 0 (upd (fun _ => 0) 1 u.1) u.2) (F2 k))) Q := by
  obtain ⟨gA, lA, BA, hA, XA, wA, tA, a1, a2, a3, a4, a5, a6, a7, ⟨a8, a9, a10, a11⟩, a12⟩ := s1
  obtain ⟨gB, lB, BB, hB, XB, wB, tB, b1, b2, b3, b4, b5, b6, b7, ⟨b8, b9, b10, b11⟩, b12⟩ := s2
  have f1 := FE_eo m1.2.1 a2
  have f2 := FE_eo m2.2.1 b2
  obtain ⟨c1, c2, c3⟩ := a3
  obtain ⟨d1, d2, d3⟩ := b3
  have ha' : ∃ a, r2.2.1 95 = nI a ∧ a ≤ 1000000 := by rw [← ha2]; exact ha
  by_cases er : r1.2.1 56 = 0
  · have er2 := hK.1.1.mp er
    obtain ⟨⟨⟨rB1, rh1, rm1, rm2, rm3, rm4⟩, ⟨rB2, rh2, rn1, rn2, rn3, rn4⟩⟩, k57, u, v, k1, k2, k3, k4, k5⟩ := hK.1.2 er
    have room : hA + (XC - 400000) + 10 ≤ BA + 870000 ∧ hB + (XC - 400000) + 10 ≤ BB + 870000 := by
      have p1 := HS_b a1.1
      have p2 := HS_b b1.1
      have p3 := a1.1.2.1
      have p4 := b1.1.2.1
      have e1 : BA = rB1 := (n_eq (by omega) (by omega)).mp (a1.1.1.symm.trans rm1)
      have e2 : BB = rB2 := (n_eq (by omega) (by omega)).mp (b1.1.1.symm.trans rn1)
      have e3 : hA = rh1 := (n_eq (by omega) (by omega)).mp (a1.1.2.2.1.symm.trans rm3)
      have e4 : hB = rh2 := (n_eq (by omega) (by omega)).mp (b1.1.2.2.1.symm.trans rn3)
      omega
    have e1 : tA = t := a11.resolve_right (fun z => z er)
    have e2 : tB = t := b11.resolve_right (fun z => z er2)
    subst e1
    subst e2
    have ew : wB = wA := by
      have z := b5.symm.trans (k57.symm.trans a5)
      exact (n_eq (by omega) (by omega)).mp z
    subst ew
    have bc := HS_vb a1.1 c3
    have bd := HS_vb b1.1 d3
    have eu : c1 = u := (n_eq (by omega) (by omega)).mp (c2.symm.trans k1)
    have ev : d1 = v := (n_eq (by omega) (by omega)).mp (d2.symm.trans k2)
    subst eu
    subst ev
    have hR' := RA_step m1.2.1 m2.2.1 hR a2 b2 k57 (a8.trans b8.symm) hK.2
    have j1 : IT gA r1.2 := IT_eo m1.2.1 m1.1 (Or.inr ⟨BA, hA, a1.1⟩) a2 i1
    have j2 : IT gB r2.2 := IT_eo m2.2.1 m2.1 (Or.inr ⟨BB, hB, b1.1⟩) b2 i2
    have x1 := a12 er
    have x2 := b12 er2
    refine T2_ob (T2_of (s_answer a1.1 c3 a5 (by omega) (by exact c2)) (s_answer b1.1 d3 b5 (by omega) (by exact d2)) (fun n => Pm_wl (fun k => wl_answer k _ _ _) (fun k => wl_answer k _ _ _) (k_answer a1.1 b1.1 c3 d3 k5 er er2 a5 b5 (by omega) (by exact c2) (by exact d2)))) (fun z1 z2 hz => ?_)
    obtain ⟨⟨⟨y1, y2, y3, y4⟩, wl1, wl2⟩, _, _⟩ := hz
    have ys1 : ∀ j, j ≠ 56 → j ≠ 57 → z1.2.1 j = r1.2.1 j := fun j q1 q2 => WkO_s y3 q1 q2
    have ys2 : ∀ j, j ≠ 56 → j ≠ 57 → z2.2.1 j = r2.2.1 j := fun j q1 q2 => WkO_s y4 q1 q2
    have n1 : MI tB XA gA lA BA hA z1.2 := MI_c a1 (ys1 54 (by decide) (by decide)) (ys1 55 (by decide) (by decide)) (ys1 63 (by decide) (by decide)) (ys1 72 (by decide) (by decide)) (WkO_a y3)
    have n2 : MI tB XB gB lB BB hB z2.2 := MI_c b1 (ys2 54 (by decide) (by decide)) (ys2 55 (by decide) (by decide)) (ys2 63 (by decide) (by decide)) (ys2 72 (by decide) (by decide)) (WkO_a y4)
    have z59 : z1.2.1 59 = nI tB := (ys1 59 (by decide) (by decide)).trans a8
    have w59 : z2.2.1 59 = nI tB := (ys2 59 (by decide) (by decide)).trans b8
    refine T2_ob (T2_t (s_push z59 (by omega) _) (s_push w59 (by omega) _)) (fun v1 v2 hv => ?_)
    rw [hv.1, hv.2]
    show T2 (fun k => F1 k (0, mPu z1.2 tB z1.1)) (fun k => F2 k (0, mPu z2.2 tB z2.1)) Q
    rw [y1, y2]
    refine hQ _ _ (FE_tr f1 (FE_tr (FE_wk y3) FE_pu)) (FE_tr f2 (FE_tr (FE_wk y4) FE_pu)) ?_
    have s28 : z1.2.2.2 28 = r1.2.2.2 28 := congrFun (WkO_a y3) 28
    have t28 : z2.2.2.2 28 = r2.2.2.2 28 := congrFun (WkO_a y4) 28
    by_cases le : wB + szN (r1.2.2.2 28) c1 ≤ 60000
    · have zr1 := (WkO_er er y3).mpr le
      have zr2 := (WkO_er er2 y4).mpr le
      have y57 : z1.2.1 57 = nI (wB + szN (r1.2.2.2 28) c1) := WkO_57 y3
      refine Or.inl ⟨wB + szN (r1.2.2.2 28) c1, by omega, gA, lA, BA, hA, XA + 6 * szN (z1.2.2.2 28) c1, gB, lB, BB, hB, XB + 6 * szN (z2.2.2.2 28) d1, MI_pu n1 c3, MI_pu n2 d3, ?_, ?_, ?_, rfl, ?_, ?_, ?_, ⟨le, room⟩, ?_, ?_, ⟨?_, ?_⟩, ?_⟩
      · refine RA_pu n1.2.1 (RA_c hR' (WkO_a y3) (WkO_a y4) (ys1 63 (by decide) (by decide)) (ys1 72 (by decide) (by decide)) (ys1 22 (by decide) (by decide)) (ys1 24 (by decide) (by decide)) (ys1 30 (by decide) (by decide)) (ys1 44 (by decide) (by decide)) (fun j hj => ?_) ?_) ?_
        · by_cases e57 : j = 57
          · rw [e57, y57, WkO_57 y4]
          · rw [ys1 j (by unfold AlS at hj; omega) e57, ys2 j (by unfold AlS at hj; omega) e57]
            exact hR'.2.2.1 j hj
        · rw [wl1, wl2]; exact hK.2
        · rw [s28, t28]; exact ⟨c1, d1, rfl, c3, rfl, d3, k5, bc, bd⟩
      · exact IT_c ((mPu_s (by decide)).trans (ys1 72 (by decide) (by decide))) ((mPu_o (by decide)).trans (congrFun (WkO_a y3) 34)) ((mPu_o (by decide)).trans (congrFun (WkO_a y3) 35)) ((mPu_o (by decide)).trans s28) j1
      · exact IT_c ((mPu_s (by decide)).trans (ys2 72 (by decide) (by decide))) ((mPu_o (by decide)).trans (congrFun (WkO_a y4) 34)) ((mPu_o (by decide)).trans (congrFun (WkO_a y4) 35)) ((mPu_o (by decide)).trans t28) j2
      · rw [mPu_s (by decide)]; exact zr1
      · rw [mPu_s (by decide)]; exact zr2
      · rw [mPu_s (by decide)]; exact y57
      · rw [s28]; omega
      · rw [t28, (EVb_sz k5).1]; omega
      · rw [mPu_o (by decide), congrFun (WkO_a y3) 2, f1.2.2.1]; exact hT
      · rw [mPu_o (by decide), mPu_o (by decide), congrFun (WkO_a y3) 2, congrFun (WkO_a y4) 2, f1.2.2.1, f2.2.2.1]; exact hT2
      · rw [mPu_s (by decide), ys1 95 (by decide) (by decide)]; exact ha
    · have zr1 : ¬ z1.2.1 56 = 0 := fun y => le ((WkO_er er y3).mp y)
      have zr2 : ¬ z2.2.1 56 = 0 := fun y => le ((WkO_er er2 y4).mp y)
      have sz := szN_b a1.1 c3
      refine Or.inr ⟨EZ_pu n1 z59 (by omega) (by omega) zr1 (WkO_E y3 a4) ⟨_, WkO_57 y3, by omega⟩ (by rw [ys1 95 (by decide) (by decide)]; exact ha) ⟨c1, rfl, c3⟩, EZ_pu n2 w59 (by omega) (by omega) zr2 (WkO_E y4 b4) ⟨_, WkO_57 y4, by omega⟩ (by rw [ys2 95 (by decide) (by decide)]; exact ha') ⟨d1, rfl, d3⟩⟩
  · have er2 : ¬ r2.2.1 56 = 0 := fun z => er (hK.1.1.mpr z)
    have an : ∀ (r : Int32 × MS), ¬ r.2.1 56 = 0 → Tm (fun k => x_answer k 0 (upd (fun _ => 0) 1 r.1) r.2) (fun s => s = r) := fun r he => by
      refine Tm_suc (fun k => by rw [x_answer]) ?_
      refine Tm_ite (fun z => absurd z he) (fun _ => ?_)
      refine Tm_suc (fun k => by rw [x_answer]) ?_
      exact Tm_some rfl
    refine T2_ob (T2_t (an r1 er) (an r2 er2)) (fun z1 z2 hz => ?_)
    rw [hz.1, hz.2]
    refine T2_ob (T2_t (s_push a8 (by omega) _) (s_push b8 (by omega) _)) (fun v1 v2 hv => ?_)
    rw [hv.1, hv.2]
    show T2 (fun k => F1 k (0, mPu r1.2 tA r1.1)) (fun k => F2 k (0, mPu r2.2 tB r2.1)) Q
    refine hQ _ _ (FE_tr f1 FE_pu) (FE_tr f2 FE_pu) (Or.inr ⟨EZ_pu a1 a8 a9 (by omega) er a4 ⟨_, a5, by omega⟩ ha ⟨c1, c2, c3⟩, EZ_pu b1 b8 b9 (by omega) er2 b4 ⟨_, b5, by omega⟩ ha' ⟨d1, d2, d3⟩⟩)
end EAN
end JnS200
section JnS201
/-! What a tree of nodes must be for its evaluation; the place that an evaluation has (reference). -/
/-- kinds of nodes that go on behind a value -/
def Ov (y : Int32) : Prop := y = 16 ∨ y = 21 ∨ y = 22 ∨ y = 23 ∨ y = 24 ∨ y = 25 ∨ y = 26
/-- how many nodes, how many pooled characters the tables have -/
def LNo (T : Nat → Nat → Int32) : Nat := (T 98 1).toNatClampNeg
def LPo (T : Nat → Nat → Int32) : Nat := (T 98 2).toNatClampNeg
/-- statements, callables -/
def SNo (T : Nat → Nat → Int32) : Nat := (T 98 3).toNatClampNeg
def CNo (T : Nat → Nat → Int32) : Nat := (T 98 4).toNatClampNeg
/-- nodes of a tree (T: the tables; FN: functions and how many params they have). f fuel, O open levels that are left, r rank, K iterators that are left, lc whether locals may be read (0), atoms made (200), draws made (201).
 0 what is evaluated, 1 its beginning, 2 one that goes on, 3 a list of r to evaluate, 4 r iterators, 5 branches, 6 r names -/
def WN (T : Nat → Nat → Int32) (FN : Nat → Nat → Prop) : Nat → Nat → Nat → Nat → Nat → (Nat → Prop) → Int32 → Prop
  | 0, _, _, _, _, _, _ => False
  | f + 1, nt, O, r, K, lc, x =>
    (nt = 0 ∧ 4 ≤ r ∧ ∃ n k, ∃ ch : Nat → Nat, x = nI n ∧ ch k = n ∧ (∀ i, i ≤ k → (1 ≤ ch i ∧ ch i < LNo T % 70001)) ∧ (∀ i, i < k → T 6 (ch (i + 1)) = nI (ch i) ∧ T 9 (ch i) = nI (ch (i + 1))) ∧ ¬ Ov (T 4 (ch 0)) ∧ (∀ i, 1 ≤ i → i ≤ k → Ov (T 4 (ch i)) ∧ WN T FN f 2 O r K lc (nI (ch i))) ∧ WN T FN f 1 O r K lc (nI (ch 0))) ∨
    (nt = 2 ∧ ∃ n, x = nI n ∧ (1 ≤ n ∧ n < LNo T % 70001) ∧ (T 4 n = 26 ∨ ((T 4 n = 16 ∨ T 4 n = 21 ∨ T 4 n = 22 ∨ T 4 n = 23 ∨ T 4 n = 24 ∨ T 4 n = 25) ∧ (∃ O' r', ((O' = O ∧ r' + 2 ≤ r) ∨ (O' < O ∧ r' ≤ 14)) ∧ WN T FN f 0 O' r' K lc (T 7 n)) ∧ (T 4 n = 22 → ∃ O' r', ((O' = O ∧ r' + 2 ≤ r) ∨ (O' < O ∧ r' ≤ 14)) ∧ WN T FN f 0 O' r' K lc (T 8 n))))) ∨
    (nt = 1 ∧ ∃ n, x = nI n ∧ (1 ≤ n ∧ n < LNo T % 70001) ∧ (
      (T 4 n = 1 ∧ ∃ p q, T 5 n = nI p ∧ T 6 n = nI q ∧ q ≤ 60 ∧ p + q ≤ LPo T % 70001 ∧ ∀ i, i < q → ∃ d, d ≤ 300 ∧ T 12 (p + i) = nI d) ∨
      (T 4 n = 2 ∧ ∃ p q, T 5 n = nI p ∧ T 6 n = nI q ∧ q ≤ 60000 ∧ p + q ≤ 70000 ∧ (q = 0 ∨ p + q ≤ LPo T % 70001)) ∨
      (T 4 n = 3 ∨ T 4 n = 4 ∨ T 4 n = 5 ∨ (T 4 n = 6 ∧ lc 200)) ∨
      (T 4 n = 7 ∧ ∃ s, T 6 n = nI s ∧ s < 60 ∧ (T 5 n = 0 ∨ lc 0)) ∨
      (T 4 n = 8 ∧ 1 ≤ O ∧ ∃ fn m c, T 5 n = nI fn ∧ FN fn m ∧ m ≤ 60 ∧ T 8 n = nI c ∧ 21 ≤ c + O ∧ c ≤ 30 ∧ WN T FN f 3 (O - 1) m K lc (T 6 n)) ∨
      ((T 4 n = 9 ∨ T 4 n = 17 ∨ T 4 n = 18 ∨ T 4 n = 19 ∨ T 4 n = 20) ∧ (T 4 n = 9 → lc 201 ∨ ∃ v, T 5 n = nI v ∧ ((39 ≤ v ∧ v ≤ 47) ∨ v = 50)) ∧ ∃ O' r', ((O' = O ∧ r' + 2 ≤ r) ∨ (O' < O ∧ r' ≤ 14)) ∧ WN T FN f 0 O' r' K lc (T 6 n)) ∨
      ((T 4 n = 10 ∨ T 4 n = 11) ∧ 1 ≤ O ∧ ∃ m, m ≤ 70000 ∧ WN T FN f 3 (O - 1) m K lc (T 6 n)) ∨
      (T 4 n = 12 ∧ 1 ≤ O ∧ WN T FN f 0 (O - 1) 14 K lc (T 6 n) ∧ (T 7 n = -1 ∨ WN T FN f 0 (O - 1) 14 K lc (T 7 n)) ∧ WN T FN f 0 (O - 1) 14 K lc (T 8 n)) ∨
      (T 4 n = 13 ∧ 1 ≤ O ∧ ∃ m, 1 ≤ m ∧ m ≤ K ∧ WN T FN f 4 (O - 1) m K lc (T 6 n) ∧ (T 7 n = -1 ∨ WN T FN f 0 (O - 1) 14 (K - m) lc (T 7 n)) ∧ WN T FN f 0 (O - 1) 14 (K - m) lc (T 8 n)) ∨
      (T 4 n = 14 ∧ 1 ≤ O ∧ ∃ m, 1 ≤ m ∧ m ≤ K ∧ WN T FN f 4 (O - 1) m K lc (T 6 n) ∧ WN T FN f 0 (O - 1) 14 (K - m) lc (T 7 n)) ∨
      (T 4 n = 15 ∧ 1 ≤ O ∧ WN T FN f 5 (O - 1) 0 K lc (T 6 n)))) ∨
    (nt = 3 ∧ ((r = 0 ∧ x = -1) ∨ ∃ m n, r = m + 1 ∧ x = nI n ∧ (1 ≤ n ∧ n < LNo T % 70001) ∧ WN T FN f 0 O 14 K lc x ∧ WN T FN f 3 O m K lc (T 9 n))) ∨
    (nt = 4 ∧ ((r = 0 ∧ x = -1) ∨ ∃ m n q, r = m + 1 ∧ x = nI n ∧ (1 ≤ n ∧ n < LNo T % 70001) ∧ 1 ≤ K ∧ (1 ≤ q ∧ q ≤ 70000) ∧ WN T FN f 6 O q K lc (T 6 n) ∧ WN T FN f 0 O 14 K lc (T 7 n) ∧ WN T FN f 4 O m (K - 1) lc (T 9 n))) ∨
    (nt = 5 ∧ ∃ n, x = nI n ∧ (1 ≤ n ∧ n < LNo T % 70001) ∧ WN T FN f 0 O 14 K lc (T 6 n) ∧ (T 5 n = -1 ∨ (WN T FN f 0 O 14 K lc (T 5 n) ∧ WN T FN f 5 O 0 K lc (T 9 n)))) ∨
    (nt = 6 ∧ ((r = 0 ∧ x = -1) ∨ ∃ m n s, r = m + 1 ∧ x = nI n ∧ (1 ≤ n ∧ n < LNo T % 70001) ∧ T 6 n = nI s ∧ s < 60 ∧ ((T 5 n = 0 ∨ lc 0) ∧ lc (if T 5 n = 0 then 1 + s else 61 + s)) ∧ WN T FN f 6 O m K lc (T 9 n)))
/-- within a function -/
def lcF (j : Nat) : Prop := j = 0 ∨ (61 ≤ j ∧ j ≤ 120)
/-- names that don't count (1 + s: of the program, 61 + s: of a proc's call) -/
def LcU (lc : Nat → Prop) (c : Nat) (σ : MS) : Prop := (∀ s, s < 60 → lc (1 + s) → kC σ s = 0) ∧ (∀ s, s < 60 → lc (61 + s) → σ.1 69 = 0 → 1 ≤ c → kC σ (60 * (1 + (σ.2.2 30 (65 + 3 * (c - 1))).toNatClampNeg) + s) = 0)
/-- tables and functions of a state -/
def STb (T : Nat → Nat → Int32) (FN : Nat → Nat → Prop) (σ : MS) : Prop := (∀ a i, 4 ≤ a → a ≤ 11 → ((a ≤ 9 → (1 ≤ i ∧ i < LNo T % 70001)) ∧ (10 ≤ a → i < SNo T % 402)) → σ.2.2 a i = T a i) ∧ (∀ fn m, FN fn m → fn < CNo T % 42 ∧ m ≤ 60 ∧ σ.2.2 18 fn = nI m ∧ ∃ F b, σ.2.2 17 fn = nI b ∧ (1 ≤ b ∧ b < LNo T % 70001) ∧ WN T FN F 0 20 14 60 lcF (nI b)) ∧ (∀ i, i < LPo T % 70001 → σ.2.2 12 i = T 12 i) ∧ σ.1 22 = nI (LNo T % 70001) ∧ σ.1 24 = nI (LPo T % 70001) ∧ σ.1 30 = nI (CNo T % 42) ∧ σ.1 44 = nI (SNo T % 402)
/-- where the frame of the last call begins (with no call: the exp that is worked alone) -/
def fb (fu : Nat) : Nat := if fu = 0 then 0 else 60 * (1 + fu)
theorem fb_le {fu : Nat} (h : fu ≤ 20) : fb fu ≤ 1260 := by
  unfold fb
  split <;> omega
theorem fb_s {fu : Nat} : fb (fu + 1) = 60 * (1 + (fu + 1)) := if_neg (Nat.succ_ne_zero fu)
/-- where an evaluation stands: calls of functions fu, depth dp, e iterators open -/
def Cx (lc : Nat → Prop) (fu dp e : Nat) (σ : MS) : Prop := σ.1 67 = nI fu ∧ fu ≤ 20 ∧ σ.1 97 = nI dp ∧ dp ≤ 60 ∧ σ.1 72 = nI e ∧ (∃ c, σ.2.2 30 1 = nI c ∧ c ≤ 50 ∧ (lc 0 → σ.1 69 = 1 ∨ (σ.1 69 = 0 ∧ 1 ≤ c)) ∧ LcU lc c σ) ∧ (σ.1 69 = 0 ∨ (σ.1 69 = 1 ∧ σ.1 68 = nI (fb fu)))
section WST
variable {T : Nat → Nat → Int32} {FN : Nat → Nat → Prop} {σ τ ρ : MS} {lc : Nat → Prop} {fu dp e : Nat}
theorem STb_b (hS : STb T FN σ) (sc : ∀ j, j = 22 ∨ j = 24 ∨ j = 30 ∨ j = 44 → ρ.1 j = σ.1 j) (h : ∀ a i, (4 ≤ a ∧ a ≤ 11 ∧ (a ≤ 9 → (1 ≤ i ∧ i < (σ.1 22).toNatClampNeg)) ∧ (10 ≤ a → i < (σ.1 44).toNatClampNeg)) ∨ (a = 12 ∧ i < (σ.1 24).toNatClampNeg) ∨ ((a = 17 ∨ a = 18) ∧ i < (σ.1 30).toNatClampNeg) → ρ.2.2 a i = σ.2.2 a i) : STb T FN ρ := by
  obtain ⟨h1, h2, h3, h4, h5, h6, h7⟩ := hS
  refine ⟨fun a i q1 q2 q3 => ?_, fun fn m q => ?_, fun i q => ?_, (sc 22 (by omega)).trans h4, (sc 24 (by omega)).trans h5, (sc 30 (by omega)).trans h6, (sc 44 (by omega)).trans h7⟩
  · rw [h a i (Or.inl ⟨q1, q2, fun q => by rw [h4, n_cl (p := LNo T % 70001) (by omega)]; exact q3.1 q, fun q => by rw [h7, n_cl (p := SNo T % 402) (by omega)]; exact q3.2 q⟩)]; exact h1 a i q1 q2 q3
  · have hf := (h2 fn m q).1
    have c : fn < (σ.1 30).toNatClampNeg := by rw [h6, n_cl (p := CNo T % 42) (by omega)]; exact hf
    rw [h 17 fn (Or.inr (Or.inr ⟨Or.inl rfl, c⟩)), h 18 fn (Or.inr (Or.inr ⟨Or.inr rfl, c⟩))]; exact h2 fn m q
  · rw [h 12 i (Or.inr (Or.inl ⟨rfl, by rw [h5, n_cl (p := LPo T % 70001) (by omega)]; exact q⟩))]; exact h3 i q
theorem STb_nt (hS : STb T FN σ) {i : Nat} (hi : (1 ≤ i ∧ i < LNo T % 70001)) : 1 ≤ i ∧ i < (σ.1 22).toNatClampNeg := by
  rw [hS.2.2.2.1, n_cl (p := LNo T % 70001) (by omega)]; exact hi
theorem STb_30 (hS : STb T FN σ) {i : Nat} (hi : i < CNo T % 42) : i < (σ.1 30).toNatClampNeg := by
  rw [hS.2.2.2.2.2.1, n_cl (p := CNo T % 42) (by omega)]; exact hi
theorem STb_fe {N : Nat → Nat → Prop} (hS : STb T FN σ) (hF : FEn N σ ρ) : STb T FN ρ := STb_b hS (fun j hj => hF.1 j (by unfold AlS; omega) (by omega) (by omega) (by omega)) (fun a i h => hF.2.1 a i (by unfold AlR; omega) (by unfold Zn; omega) (fun z => by omega))
theorem LcU_c {c : Nat} (hc : c ≤ 50) (h : LcU lc c σ) (h69 : ρ.1 69 = σ.1 69) (h20 : ∀ i, kC ρ i = kC σ i) (d1 : σ.2.2 30 1 = nI c) (h30 : ∀ i, ¬ Zn 30 i → ¬ InA σ 30 i → ρ.2.2 30 i = σ.2.2 30 i) : LcU lc c ρ := by
  refine ⟨fun s hs z => by rw [h20]; exact h.1 s hs z, fun s hs z z69 z1 => ?_⟩
  rw [h20, h30 _ (by unfold Zn; omega) (InA_cl d1 hc (by omega))]
  exact h.2 s hs z (h69.symm.trans z69) z1
theorem Cx_b (hC : Cx lc fu dp e σ) (sc : ∀ j, j = 67 ∨ j = 97 ∨ j = 72 ∨ j = 69 ∨ j = 68 → ρ.1 j = σ.1 j) (h20 : ∀ i, kC ρ i = kC σ i) (h30 : ∀ i, ¬ Zn 30 i → ¬ InA σ 30 i → ρ.2.2 30 i = σ.2.2 30 i) : Cx lc fu dp e ρ := by
  obtain ⟨c1, c2, c3, c4, c5, ⟨c, d1, d2, d3, d4⟩, c7⟩ := hC
  refine ⟨(sc 67 (by omega)).trans c1, c2, (sc 97 (by omega)).trans c3, c4, (sc 72 (by omega)).trans c5, ⟨c, (h30 1 (by unfold Zn; omega) (InA_4 (by omega))).trans d1, d2, ?_, LcU_c d2 d4 (sc 69 (by omega)) h20 d1 h30⟩, ?_⟩
  · rw [sc 69 (by omega)]; exact d3
  · rw [sc 69 (by omega), sc 68 (by omega)]; exact c7
theorem Cx_fe {N : Nat → Nat → Prop} (hC : Cx lc fu dp e σ) (hF : FEn N σ ρ) : Cx lc fu dp e ρ := Cx_b hC (fun j hj => hF.1 j (by unfold AlS; omega) (by omega) (by omega) (by omega)) (FEn_b hF).2.1 (fun i h _ => (FEn_b hF).2.2.1 i h)
theorem STb_ra {t : Nat} {g1 g2 : Nat → Prop} {σ1 σ2 : MS} (hR : RA t g1 g2 σ1 σ2) (hS : STb T FN σ1) : STb T FN σ2 := STb_b hS (fun j hj => (hR.2.2.1 j (by unfold AlS; omega)).symm) (fun a i h => (hR.2.1 a i (by unfold AlR; omega) (by unfold Zn; omega) (by unfold InA StU; omega)).symm)
theorem Cx_ra {t : Nat} {g1 g2 : Nat → Prop} {σ1 σ2 : MS} (hR : RA t g1 g2 σ1 σ2) (hC : Cx lc fu dp e σ1) : Cx lc fu dp e σ2 := Cx_b hC (fun j hj => (hR.2.2.1 j (by unfold AlS; omega)).symm) (kC_ra hR) (fun i h h' => (hR.2.1 30 i (by unfold AlR; omega) h h').symm)
end WST
section ESW
variable {t w XC : Nat} {σ1 σ2 : MS}
/-- both sweep -/
theorem E_sw (hXC : XC ≤ 408500) (ht : t ≤ 185000) (hE : EI t w XC σ1 σ2) : T2 (fun k => x_sweep k 0 (upd (fun _ => 0) 1 780000) σ1) (fun k => x_sweep k 0 (upd (fun _ => 0) 1 780000) σ2) (fun r1 r2 => FE σ1 r1.2 ∧ FE σ2 r2.2 ∧ ∃ (g1 : Nat → Prop) (l1 : List Nat) (B1 h1 X1 : Nat) (g2 : Nat → Prop) (l2 : List Nat) (B2 h2 X2 : Nat), EIx t w XC r1.2 r2.2 g1 l1 B1 h1 X1 g2 l2 B2 h2 X2 ∧ h1 + 79900 ≤ B1 + 870000 ∧ h2 + 79900 ≤ B2 + 870000) := by
  obtain ⟨g1, l1, B1, h1, X1, g2, l2, B2, h2, X2, m1, m2, hR, i1, i2, t1, e1, e2, w1, hw, x1, x2, ⟨ty1, ty2⟩, a, a1, a2⟩ := hE
  have t2 : σ2.1 59 = nI t := (hR.2.2.1 59 (by unfold AlS; omega)).symm.trans t1
  refine T2_mono (T2_of (MI_sw (T := 780000) m1 t1 ht rfl (by decide)) (MI_sw (T := 780000) m2 t2 ht rfl (by decide)) (fun n => k_sweep (XM := 780000) (by omega) m1 m2 hR t1 ht (by omega) (by omega) rfl rfl)) (fun r1 r2 hr => ?_)
  obtain ⟨⟨gA, lA, BA, hA, gB, lB, BB, hB, a1', a2', a3, a4, a5, a6, a7, a8, a9⟩, _, _⟩ := hr
  have f1 := FE_eo m1.2.1 a4
  have f2 := FE_eo m2.2.1 a5
  refine ⟨f1, f2, gA, lA, BA, hA, X1, gB, lB, BB, hB, X2, ⟨a1', a2', a3, IT_eo m1.2.1 m1.1 (Or.inr ⟨BA, hA, a1'.1⟩) a4 i1, IT_eo m2.2.1 m2.1 (Or.inr ⟨BB, hB, a2'.1⟩) a5 i2, (a6 59 (by decide) (by decide)).trans t1, (a6 56 (by decide) (by decide)).trans e1, (a7 56 (by decide) (by decide)).trans e2, (a6 57 (by decide) (by decide)).trans w1, ⟨hw.1, by omega, by omega⟩, x1, x2, ⟨?_, ?_⟩, a, ?_, a2⟩, a8, a9⟩
  · rw [f1.2.2.1]; exact ty1
  · rw [f1.2.2.1, f2.2.2.1]; exact ty2
  · exact (a6 95 (by decide) (by decide)).trans a1
/-- a value that can be reached is pushed -/
theorem E_pr {x y : Int32} (hE : EI t w XC σ1 σ2) (ht : t < 185000) (hx : ∀ (g1 : Nat → Prop) (l1 : List Nat) (B1 h1 X1 : Nat) (g2 : Nat → Prop) (l2 : List Nat) (B2 h2 X2 : Nat), EIx t w XC σ1 σ2 g1 l1 B1 h1 X1 g2 l2 B2 h2 X2 → VC g1 g2 (σ1.2.2 28) (σ2.2.2 28) x y ∧ (∃ m, x = nI m ∧ (m < 3 ∨ Rch (σ1.2.2 28) (RoS t σ1) m)) ∧ ∃ m, y = nI m ∧ (m < 3 ∨ Rch (σ2.2.2 28) (RoS t σ2) m)) {L1 L2 : Nat → Int32} (d1 : L1 1 = x) (d2 : L2 1 = y) : T2 (fun k => x_push k 0 L1 σ1) (fun k => x_push k 0 L2 σ2) (fun r1 r2 => FE σ1 r1.2 ∧ FE σ2 r2.2 ∧ EI (t + 1) w XC r1.2 r2.2) := by
  obtain ⟨g1, l1, B1, h1, X1, g2, l2, B2, h2, X2, hX⟩ := hE
  obtain ⟨hv, ⟨m, mm1, mm2⟩, ⟨q, q1, q2⟩⟩ := hx g1 l1 B1 h1 X1 g2 l2 B2 h2 X2 hX
  obtain ⟨m1, m2, hR, i1, i2, t1, e1, e2, w1, hw, x1, x2, ⟨ty1, ty2⟩, a, a1, a2⟩ := hX
  have t2 : σ2.1 59 = nI t := (hR.2.2.1 59 (by unfold AlS; omega)).symm.trans t1
  refine T2_mono (T2_t (s_push t1 ht L1) (s_push t2 ht L2)) (fun r1 r2 hr => ?_)
  rw [hr.1, hr.2, d1, d2]
  refine ⟨FE_pu, FE_pu, g1, l1, B1, h1, X1, g2, l2, B2, h2, X2, ?_, ?_, RA_pu m1.2.1 hR hv, IT_c (mPu_s (by decide)) (mPu_o (by decide)) (mPu_o (by decide)) (mPu_o (by decide)) i1, IT_c (mPu_s (by decide)) (mPu_o (by decide)) (mPu_o (by decide)) (mPu_o (by decide)) i2, rfl, ?_, ?_, ?_, hw, x1, x2, ⟨?_, ?_⟩, a, ?_, a2⟩
  · rw [mm1]; exact MI_pur m1 mm2
  · rw [q1]; exact MI_pur m2 q2
  · rw [mPu_s (by decide)]; exact e1
  · rw [mPu_s (by decide)]; exact e2
  · rw [mPu_s (by decide)]; exact w1
  · rw [mPu_o (by decide)]; exact ty1
  · rw [mPu_o (by decide), mPu_o (by decide)]; exact ty2
  · rw [mPu_s (by decide)]; exact a1
/-- om, a truth -/
theorem E_pc {c : Nat} (hc : c < 3) (hE : EI t w XC σ1 σ2) (ht : t < 185000) {L1 L2 : Nat → Int32} (d1 : L1 1 = nI c) (d2 : L2 1 = nI c) : T2 (fun k => x_push k 0 L1 σ1) (fun k => x_push k 0 L2 σ2) (fun r1 r2 => FE σ1 r1.2 ∧ FE σ2 r2.2 ∧ EI (t + 1) w XC r1.2 r2.2) :=
  E_pr hE ht (fun g1 l1 B1 h1 X1 g2 l2 B2 h2 X2 _ => ⟨⟨c, c, rfl, Or.inl hc, rfl, Or.inl hc, EVb_0 hc, by omega, by omega⟩, ⟨c, rfl, Or.inl hc⟩, ⟨c, rfl, Or.inl hc⟩⟩) d1 d2
/-- what lies at a place for values, below the iterators, is pushed -/
theorem E_prt {a i : Nat} (hE : EI t w XC σ1 σ2) (ht : t < 185000) (hr : RtP t σ1 a i) (hv : ¬ VwR a) {L1 L2 : Nat → Int32} (d1 : L1 1 = σ1.2.2 a i) (d2 : L2 1 = σ2.2.2 a i) : T2 (fun k => x_push k 0 L1 σ1) (fun k => x_push k 0 L2 σ2) (fun r1 r2 => FE σ1 r1.2 ∧ FE σ2 r2.2 ∧ EI (t + 1) w XC r1.2 r2.2) := by
  refine E_pr hE ht (fun g1 l1 B1 h1 X1 g2 l2 B2 h2 X2 hX => ?_) d1 d2
  obtain ⟨m1, m2, hR, _⟩ := hX
  have vc := hR.1 a i hr hv
  have hr2 := (RA_rt m1.2.1 hR t a i).mpr hr
  refine ⟨vc, ?_, ?_⟩
  · obtain ⟨m, q1, q2⟩ := m1.2.2.1 a i hr
    refine ⟨m, q1, ?_⟩
    by_cases c : m < 3
    · exact Or.inl c
    · exact Or.inr (Rch_b ⟨by omega, HS_vb m1.1 q2, a, i, hr, q1⟩)
  · obtain ⟨m, q1, q2⟩ := m2.2.2.1 a i hr2
    refine ⟨m, q1, ?_⟩
    by_cases c : m < 3
    · exact Or.inl c
    · exact Or.inr (Rch_b ⟨by omega, HS_vb m2.1 q2, a, i, hr2, q1⟩)
end ESW
end JnS201
