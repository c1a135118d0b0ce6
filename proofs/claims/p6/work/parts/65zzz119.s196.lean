/-! Two runs that end, side by side (reference): rules. -/
/-- from some fuel on both give one answer each, and Q holds of the two -/
def T2 (g1 g2 : Nat → Option (Int32 × MS)) (Q : Int32 × MS → Int32 × MS → Prop) : Prop := ∃ r1 r2 N, (∀ k, N ≤ k → g1 k = some r1) ∧ (∀ k, N ≤ k → g2 k = some r2) ∧ Q r1 r2
section T2R
variable {g1 g2 h1 h2 : Nat → Option (Int32 × MS)} {Q P : Int32 × MS → Int32 × MS → Prop}
theorem T2_of {P1 P2 : Int32 × MS → Prop} (t1 : Tm g1 P1) (t2 : Tm g2 P2) (t : ∀ n, Pm n g1 g2 Q) : T2 g1 g2 (fun r1 r2 => Q r1 r2 ∧ P1 r1 ∧ P2 r2) := by
  obtain ⟨r1, N1, a1, b1⟩ := t1
  obtain ⟨r2, N2, a2, b2⟩ := t2
  refine ⟨r1, r2, N1 + N2, fun k hk => a1 k (by omega), fun k hk => a2 k (by omega), ?_, b1, b2⟩
  exact t (N1 + N2) (N1 + N2) (Nat.le_refl _) r1 r2 (a1 _ (by omega)) (a2 _ (by omega))
theorem T2_t {P1 P2 : Int32 × MS → Prop} (t1 : Tm g1 P1) (t2 : Tm g2 P2) : T2 g1 g2 (fun r1 r2 => P1 r1 ∧ P2 r2) := by
  obtain ⟨r1, N1, a1, b1⟩ := t1
  obtain ⟨r2, N2, a2, b2⟩ := t2
  exact ⟨r1, r2, N1 + N2, fun k hk => a1 k (by omega), fun k hk => a2 k (by omega), b1, b2⟩
theorem T2_1 (t : T2 g1 g2 Q) : Tm g1 (fun r => ∃ r2, Q r r2) := by
  obtain ⟨r1, r2, N, a1, a2, b⟩ := t
  exact ⟨r1, N, a1, r2, b⟩
theorem T2_mono (t : T2 g1 g2 P) (h : ∀ r1 r2, P r1 r2 → Q r1 r2) : T2 g1 g2 Q := by
  obtain ⟨r1, r2, N, a1, a2, b⟩ := t
  exact ⟨r1, r2, N, a1, a2, h r1 r2 b⟩
theorem T2_suc (e1 : ∀ k, g1 (k + 1) = h1 k) (e2 : ∀ k, g2 (k + 1) = h2 k) (t : T2 h1 h2 Q) : T2 g1 g2 Q := by
  obtain ⟨r1, r2, N, a1, a2, b⟩ := t
  refine ⟨r1, r2, N + 1, fun k hk => ?_, fun k hk => ?_, b⟩
  · obtain ⟨j, rfl⟩ : ∃ j, k = j + 1 := ⟨k - 1, by omega⟩
    rw [e1]; exact a1 j (by omega)
  · obtain ⟨j, rfl⟩ : ∃ j, k = j + 1 := ⟨k - 1, by omega⟩
    rw [e2]; exact a2 j (by omega)
theorem T2_some {r1 r2 : Int32 × MS} (h : Q r1 r2) : T2 (fun _ => some r1) (fun _ => some r2) Q := ⟨r1, r2, 0, fun _ _ => rfl, fun _ _ => rfl, h⟩
theorem T2_ite {c1 c2 : Prop} {d1 : Decidable c1} {d2 : Decidable c2} {a1 a2 b1 b2 : Nat → Option (Int32 × MS)} (hc : c1 ↔ c2) (t : c1 → c2 → T2 a1 a2 Q) (u : ¬ c1 → ¬ c2 → T2 b1 b2 Q) : T2 (fun k => if c1 then a1 k else b1 k) (fun k => if c2 then a2 k else b2 k) Q := by
  by_cases h : c1
  · have h' := hc.mp h
    have e1 : (fun k => if c1 then a1 k else b1 k) = a1 := by funext k; rw [if_pos h]
    have e2 : (fun k => if c2 then a2 k else b2 k) = a2 := by funext k; rw [if_pos h']
    rw [e1, e2]; exact t h h'
  · have h' : ¬ c2 := fun z => h (hc.mpr z)
    have e1 : (fun k => if c1 then a1 k else b1 k) = b1 := by funext k; rw [if_neg h]
    have e2 : (fun k => if c2 then a2 k else b2 k) = b2 := by funext k; rw [if_neg h']
    rw [e1, e2]; exact u h h'
theorem T2_chk {c1 c2 : Prop} {d1 : Decidable c1} {d2 : Decidable c2} {a1 a2 : Nat → Option (Int32 × MS)} (z1 : c1) (z2 : c2) (t : T2 a1 a2 Q) : T2 (fun k => if c1 then a1 k else none) (fun k => if c2 then a2 k else none) Q := by
  have e1 : (fun k => if c1 then a1 k else none) = a1 := by funext k; rw [if_pos z1]
  have e2 : (fun k => if c2 then a2 k else none) = a2 := by funext k; rw [if_pos z2]
  rw [e1, e2]; exact t
theorem T2_ob {x1 x2 : Nat → Option (Int32 × MS)} {f1 f2 : Nat → Int32 × MS → Option (Int32 × MS)} (t : T2 x1 x2 P) (h : ∀ r1 r2, P r1 r2 → T2 (fun k => f1 k r1) (fun k => f2 k r2) Q) : T2 (fun k => ob (x1 k) (f1 k)) (fun k => ob (x2 k) (f2 k)) Q := by
  obtain ⟨r1, r2, N, a1, a2, b⟩ := t
  obtain ⟨s1, s2, M, c1, c2, d⟩ := h r1 r2 b
  refine ⟨s1, s2, N + M, fun k hk => ?_, fun k hk => ?_, d⟩
  · show ob (x1 k) (f1 k) = _
    rw [a1 k (by omega)]; exact c1 k (by omega)
  · show ob (x2 k) (f2 k) = _
    rw [a2 k (by omega)]; exact c2 k (by omega)
theorem T2_od {e : Nat} {f1 f2 : Nat → Nat → Option (Int32 × MS)} (t : T2 (fun k => f1 k e) (fun k => f2 k e) Q) : T2 (fun k => od (e + 1) (fun d => f1 k d)) (fun k => od (e + 1) (fun d => f2 k d)) Q := t
end T2R
/-! Two states alike: all that a run reads. -/
/-- numbers of a run -/
def AlS (j : Nat) : Prop := j = 57 ∨ j = 59 ∨ (63 ≤ j ∧ j ≤ 69) ∨ j = 72 ∨ j = 95 ∨ j = 97 ∨ (102 ≤ j ∧ j ≤ 104) ∨ j = 106 ∨ j = 110 ∨ j = 22 ∨ j = 24 ∨ j = 30 ∨ j = 44
/-- rows of a run -/
def AlR (a : Nat) : Prop := (4 ≤ a ∧ a ≤ 12) ∨ (17 ≤ a ∧ a ≤ 21) ∨ (30 ≤ a ∧ a ≤ 35) ∨ a = 50
/-- places for values -/
def Zn (a i : Nat) : Prop := a = 33 ∨ a = 34 ∨ (a = 30 ∧ ((4 ≤ i ∧ i < 64) ∨ (214 ≤ i ∧ i < 3214) ∨ (5314 ≤ i ∧ i < 8414))) ∨ (a = 31 ∧ ((4 ≤ i % 11514 ∧ i % 11514 < 64) ∨ (214 ≤ i % 11514 ∧ i % 11514 < 3214) ∨ (5314 ≤ i % 11514 ∧ i % 11514 < 8414)))
def VwR (a : Nat) : Prop := a = 36 ∨ a = 37 ∨ a = 38 ∨ a = 40
/-- numbers of a state that are not in use: calls, fors, iterators beyond those that are open -/
def IaN (A : Nat → Int32) (b j : Nat) : Prop := (64 ≤ j ∧ j < 3214 ∧ 64 + 3 * (A (b + 1)).toNatClampNeg ≤ j) ∨ (3214 ≤ j ∧ j < 8414 ∧ 3214 + 2 * (A (b + 2)).toNatClampNeg ≤ j) ∨ (8414 ≤ j ∧ 8414 + (A (b + 3)).toNatClampNeg ≤ j)
/-- slots that are told of a unit: none beyond the units there are (c) -/
def hdU (c : Int32) (H : Nat → Int32) (u : Nat) : Nat := if u ≤ c.toNatClampNeg then (H u).toNatClampNeg else 0
theorem hdU_h {c : Int32} {H H' : Nat → Int32} {u : Nat} (h : H' u = H u) : hdU c H' u = hdU c H u := by unfold hdU; rw [h]
/-- tables beyond the callables (c), the statements (s), the slots told (H) -/
def StU (c s : Int32) (H : Nat → Int32) (a i : Nat) : Prop := ((a = 10 ∨ a = 11) ∧ s.toNatClampNeg ≤ i) ∨ ((a = 17 ∨ a = 18) ∧ c.toNatClampNeg ≤ i) ∨ a = 19 ∨ (a = 21 ∧ (42 ≤ i ∨ c.toNatClampNeg < i)) ∨ (a = 20 ∧ (2520 ≤ i ∨ hdU c H (i / 60) ≤ i % 60))
theorem StU_h {c s : Int32} {H H' : Nat → Int32} (h : ∀ u, u < 42 → hdU c H' u = hdU c H u) (a i : Nat) : StU c s H' a i ↔ StU c s H a i := by
  have e : (2520 ≤ i ∨ hdU c H' (i / 60) ≤ i % 60) ↔ (2520 ≤ i ∨ hdU c H (i / 60) ≤ i % 60) := by
    by_cases e : 2520 ≤ i
    · exact ⟨fun _ => Or.inl e, fun _ => Or.inl e⟩
    · rw [h (i / 60) (by omega)]
  unfold StU; rw [e]
/-- what is not in use: of the state, of points, of iterators; nodes and pooled characters beyond those that are laid -/
def InA (σ : MS) (a i : Nat) : Prop := (a = 30 ∧ IaN (σ.2.2 30) 0 i) ∨ (a = 31 ∧ ((σ.1 63).toNatClampNeg ≤ i / 11514 ∨ IaN (σ.2.2 31) (11514 * (i / 11514)) (i % 11514))) ∨ (a = 32 ∧ (σ.1 63).toNatClampNeg ≤ i) ∨ (a = 35 ∧ (σ.1 72).toNatClampNeg ≤ i) ∨ a = 50 ∨ (4 ≤ a ∧ a ≤ 9 ∧ ((σ.1 22).toNatClampNeg ≤ i ∨ i = 0)) ∨ (a = 12 ∧ (σ.1 24).toNatClampNeg ≤ i) ∨ (10 ≤ a ∧ a ≤ 21 ∧ StU (σ.1 30) (σ.1 44) (σ.2.2 21) a i)
theorem InA_t {σ : MS} {a i : Nat} (h : a = 17 ∨ a = 18) (hi : i < (σ.1 30).toNatClampNeg) : ¬ InA σ a i := by unfold InA StU; omega
theorem InA_10 {σ : MS} {a i : Nat} (h : a = 10 ∨ a = 11) (hi : i < (σ.1 44).toNatClampNeg) : ¬ InA σ a i := by unfold InA StU; omega
theorem InA_20 {σ : MS} {i : Nat} (h : i < 2520) (h' : i % 60 < hdU (σ.1 30) (σ.2.2 21) (i / 60)) : ¬ InA σ 20 i := by unfold InA StU; omega
theorem InA_n {σ : MS} {a i : Nat} (h : 4 ≤ a ∧ a ≤ 9) (hi : 1 ≤ i ∧ i < (σ.1 22).toNatClampNeg) : ¬ InA σ a i := by unfold InA; omega
theorem InA_12 {σ : MS} {i : Nat} (hi : i < (σ.1 24).toNatClampNeg) : ¬ InA σ 12 i := by unfold InA StU; omega
theorem InA_21 {σ : MS} {i : Nat} (hi : i < 42 ∧ i ≤ (σ.1 30).toNatClampNeg) : ¬ InA σ 21 i := by unfold InA StU; omega
theorem InA_4 {σ : MS} {i : Nat} (h : i < 4) : ¬ InA σ 30 i := by unfold InA IaN; omega
theorem InA_p {σ : MS} {p j : Nat} (hp : p < (σ.1 63).toNatClampNeg) (h : j < 4) : ¬ InA σ 31 (11514 * p + j) := by
  have e1 : (11514 * p + j) / 11514 = p := by omega
  have e2 : (11514 * p + j) % 11514 = j := by omega
  unfold InA IaN; rw [e1, e2]; omega
theorem InA_cl {σ : MS} {c i : Nat} (h1 : σ.2.2 30 1 = nI c) (hc : c ≤ 50) (h : 64 ≤ i ∧ i < 64 + 3 * c) : ¬ InA σ 30 i := by
  unfold InA IaN; rw [Nat.zero_add, h1, n_cl (p := c) (by omega)]; omega
theorem InA_fo {σ : MS} {f i : Nat} (h2 : σ.2.2 30 2 = nI f) (hf : f ≤ 2000) (h : 3214 ≤ i ∧ i < 3214 + 2 * f ∧ i < 8414) : ¬ InA σ 30 i := by
  unfold InA IaN; rw [Nat.zero_add, Nat.zero_add, h2, n_cl (p := f) (by omega)]; omega
theorem InA_it {σ : MS} {q i : Nat} (h3 : σ.2.2 30 3 = nI q) (hq : q ≤ 4000) (h : 8414 ≤ i ∧ i < 8414 + q) : ¬ InA σ 30 i := by
  unfold InA IaN; rw [Nat.zero_add, Nat.zero_add, Nat.zero_add, h3, n_cl (p := q) (by omega)]; omega
theorem InA_c {σ ρ : MS} (h63 : ρ.1 63 = σ.1 63) (h72 : ρ.1 72 = σ.1 72) (h22 : ρ.1 22 = σ.1 22) (h24 : ρ.1 24 = σ.1 24) (hc : ρ.1 30 = σ.1 30) (hs : ρ.1 44 = σ.1 44) (h21 : ∀ u, u < 42 → hdU (σ.1 30) (ρ.2.2 21) u = hdU (σ.1 30) (σ.2.2 21) u) (h30 : ∀ j, j = 1 ∨ j = 2 ∨ j = 3 → ρ.2.2 30 j = σ.2.2 30 j) (h31 : ∀ p, p < (σ.1 63).toNatClampNeg → ∀ j, j = 1 ∨ j = 2 ∨ j = 3 → ρ.2.2 31 (11514 * p + j) = σ.2.2 31 (11514 * p + j)) (a i : Nat) : InA ρ a i ↔ InA σ a i := by
  unfold InA IaN
  rw [h63, h72, h22, h24, hc, hs, StU_h h21, Nat.zero_add, Nat.zero_add, Nat.zero_add, h30 1 (by omega), h30 2 (by omega), h30 3 (by omega)]
  by_cases c : i / 11514 < (σ.1 63).toNatClampNeg
  · rw [h31 _ c 1 (by omega), h31 _ c 2 (by omega), h31 _ c 3 (by omega)]
  · have c' : (σ.1 63).toNatClampNeg ≤ i / 11514 := by omega
    constructor
    · rintro (z | z | z)
      · exact Or.inl z
      · exact Or.inr (Or.inl ⟨z.1, Or.inl c'⟩)
      · exact Or.inr (Or.inr z)
    · rintro (z | z | z)
      · exact Or.inl z
      · exact Or.inr (Or.inl ⟨z.1, Or.inl c'⟩)
      · exact Or.inr (Or.inr z)
/-- alike: values hold the same, all else that is in use is the same; views are left out -/
def RA (t : Nat) (g1 g2 : Nat → Prop) (σ1 σ2 : MS) : Prop :=
  (∀ a i, RtP t σ1 a i → ¬ VwR a → VC g1 g2 (σ1.2.2 28) (σ2.2.2 28) (σ1.2.2 a i) (σ2.2.2 a i)) ∧ (∀ a i, AlR a → ¬ Zn a i → ¬ InA σ1 a i → σ1.2.2 a i = σ2.2.2 a i) ∧ (∀ j, AlS j → σ1.1 j = σ2.1 j) ∧ σ1.2.1 96 = σ2.2.1 96
section RAS
variable {g1 g2 g1' g2' : Nat → Prop} {t u : Nat} {σ1 σ2 ρ1 ρ2 : MS}
theorem Zn_rt {σ : MS} {a i : Nat} (hQ : RtQ σ) (hR : RtP t σ a i) (ha : AlR a) : Zn a i := by
  obtain ⟨P, e, h63, hP, h72, he, s30, s31⟩ := hQ
  have z := (RtP_iff h63 hP h72 he a i).mp hR
  rcases z with z | ⟨z, y⟩ | ⟨z, p, hp, y⟩ | z | z | z | z | z | z
  · unfold AlR at ha; omega
  · obtain ⟨c, n, c1, c2, n1, n2⟩ := s30
    have := (StI_iff (A := σ.2.2 30) (b := 0) c1 c2 n1 n2 i).mp y
    unfold Zn; omega
  · obtain ⟨c, n, c1, c2, n1, n2⟩ := s31 p hp
    have := (StI_iff (A := σ.2.2 31) (b := 11514 * p) c1 c2 n1 n2 i).mp y
    unfold Zn; omega
  · unfold Zn; omega
  · unfold Zn; omega
  · unfold AlR at ha; omega
  · unfold AlR at ha; omega
  · unfold AlR at ha; omega
  · unfold AlR at ha; omega
/-- the places of the values are alike -/
theorem RA_rt (hQ1 : RtQ σ1) (hR : RA t g1 g2 σ1 σ2) (u a i : Nat) : RtP u σ2 a i ↔ RtP u σ1 a i := by
  obtain ⟨_, r2, r3, _⟩ := hR
  obtain ⟨P, e, h63, hP, h72, he, s30, s31⟩ := hQ1
  have k63 : σ2.1 63 = nI P := (r3 63 (by unfold AlS; omega)).symm.trans h63
  have k72 : σ2.1 72 = nI e := (r3 72 (by unfold AlS; omega)).symm.trans h72
  rw [RtP_iff k63 hP k72 he, RtP_iff h63 hP h72 he]
  have q1 : σ2.2.2 30 1 = σ1.2.2 30 1 := (r2 30 1 (by unfold AlR; omega) (by unfold Zn; omega) (InA_4 (by omega))).symm
  have q3 : σ2.2.2 30 3 = σ1.2.2 30 3 := (r2 30 3 (by unfold AlR; omega) (by unfold Zn; omega) (InA_4 (by omega))).symm
  have eP : (σ1.1 63).toNatClampNeg = P := by rw [h63, n_cl (p := P) (by omega)]
  have p1 : ∀ p, p < P → σ2.2.2 31 (11514 * p + 1) = σ1.2.2 31 (11514 * p + 1) := fun p hp => (r2 31 _ (by unfold AlR; omega) (by unfold Zn; omega) (InA_p (by omega) (by omega))).symm
  have p3 : ∀ p, p < P → σ2.2.2 31 (11514 * p + 3) = σ1.2.2 31 (11514 * p + 3) := fun p hp => (r2 31 _ (by unfold AlR; omega) (by unfold Zn; omega) (InA_p (by omega) (by omega))).symm
  have x30 : StI (σ2.2.2 30) 0 i ↔ StI (σ1.2.2 30) 0 i := by
    unfold StI
    rw [show (0 + 1) = 1 from rfl, show (0 + 3) = 3 from rfl, q1, q3]
  have x31 : (∃ p, p < P ∧ StI (σ2.2.2 31) (11514 * p) i) ↔ ∃ p, p < P ∧ StI (σ1.2.2 31) (11514 * p) i := by
    constructor
    · rintro ⟨p, y1, y2⟩
      refine ⟨p, y1, ?_⟩
      unfold StI at y2 ⊢
      rw [p1 p y1, p3 p y1] at y2
      exact y2
    · rintro ⟨p, y1, y2⟩
      refine ⟨p, y1, ?_⟩
      unfold StI at y2 ⊢
      rw [p1 p y1, p3 p y1]
      exact y2
  rw [x30, x31]
theorem VC_3 {G1 G2 G3 : Nat → Prop} {H1 H2 H3 : Nat → Int32} {x y z : Int32} (a : VC G1 G2 H1 H2 x y) (b : VC G2 G3 H2 H3 y z) : VC G1 G3 H1 H3 x z := by
  obtain ⟨m, m', q1, q2, q3, q4, q5, q6, q7⟩ := a
  obtain ⟨p, p', r1, r2, r3, r4, r5, r6, r7⟩ := b
  have e : p = m' := (n_eq (by omega) (by omega)).mp (r1.symm.trans q3)
  subst e
  exact ⟨m, p', q1, q2, r3, r4, EVb_tr q5 r5, q6, r7⟩
theorem VC_sy {G1 G2 : Nat → Prop} {H1 H2 : Nat → Int32} {x y : Int32} (a : VC G1 G2 H1 H2 x y) : VC G2 G1 H2 H1 y x := by
  obtain ⟨m, m', q1, q2, q3, q4, q5, q6, q7⟩ := a
  exact ⟨m', m, q3, q4, q1, q2, EVb_sy q5, q7, q6⟩
/-- both go on -/
theorem RA_step (hQ1 : RtQ σ1) (hQ2 : RtQ σ2) (hR : RA t g1 g2 σ1 σ2) (a : EO t g1 σ1 g1' ρ1) (b : EO t g2 σ2 g2' ρ2) (h57 : ρ1.1 57 = ρ2.1 57) (h59 : ρ1.1 59 = ρ2.1 59) (h96 : ρ1.2.1 96 = ρ2.2.1 96) : RA t g1' g2' ρ1 ρ2 := by
  obtain ⟨c1, c2⟩ := EO_rt hQ1 a
  obtain ⟨d1, d2⟩ := EO_rt hQ2 b
  have rt := RA_rt hQ1 hR
  obtain ⟨r1, r2, r3, r4⟩ := hR
  have ina : ∀ x i, InA ρ1 x i ↔ InA σ1 x i := InA_c (a.2.2 63 (by omega)) (a.2.2 72 (by omega)) (a.2.2 22 (by omega)) (a.2.2 24 (by omega)) (a.2.2 30 (by omega)) (a.2.2 44 (by omega)) (fun u _ => hdU_h (a.2.1 21 u (by omega) (fun z => by have := Zn_rt hQ1 z (by unfold AlR; omega); unfold Zn at this; omega))) (fun j hj => a.2.1 30 j (by omega) (fun z => by have := Zn_rt hQ1 z (by unfold AlR; omega); unfold Zn at this; omega)) (fun p _ j hj => a.2.1 31 _ (by omega) (fun z => by have := Zn_rt hQ1 z (by unfold AlR; omega); unfold Zn at this; omega))
  refine ⟨fun x i z hv => ?_, fun x i hx hz hn => ?_, fun j hj => ?_, h96⟩
  · have z := (c2 t x i).mp z
    exact VC_3 (VC_3 (VC_sy (a.1 x i z)) (r1 x i z hv)) (b.1 x i ((rt t x i).mpr z))
  · have n1 : ¬ RtP t σ1 x i := fun z => hz (Zn_rt hQ1 z hx)
    have n2 : ¬ RtP t σ2 x i := fun z => hz (Zn_rt hQ2 z hx)
    rw [a.2.1 x i (by unfold AlR at hx; omega) n1, b.2.1 x i (by unfold AlR at hx; omega) n2]
    exact r2 x i hx hz (fun z => hn ((ina x i).mpr z))
  · by_cases e1 : j = 57
    · rw [e1]; exact h57
    by_cases e2 : j = 59
    · rw [e2]; exact h59
    rw [a.2.2 j (by unfold AlS at hj; omega), b.2.2 j (by unfold AlS at hj; omega)]
    exact r3 j hj
theorem RA_mo (hu : u ≤ t) (hR : RA t g1 g2 σ1 σ2) : RA u g1 g2 σ1 σ2 := ⟨fun a i z hv => hR.1 a i (RtP_mo hu z) hv, hR.2⟩
end RAS
