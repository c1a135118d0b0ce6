/-! Values of the reference are compared. -/
section CMP
variable {g : Nat → Prop} {l : List Nat} {B h : Nat} {σ : MS}
def rkN (H : Nat → Int32) (k : Nat) : Nat := if k < 3 then k else (H k).toNatClampNeg + 1
theorem s_rank (hS : HS g l B h σ) {m : Nat} (hm : m < 3 ∨ g m) {L : Nat → Int32} (hL : L 1 = nI m) : Tm (fun k => x_rank k 0 L σ) (fun r => r = (nI (rkN (σ.2.2 28) m), σ)) := by
  have hb := HS_vb hS hm
  unfold rkN
  refine Tm_suc (fun k => by rw [x_rank]) ?_
  rw [hL]
  refine Tm_ite (fun d => ?_) (fun d => ?_)
  · have d := (n_le (p := 3) (by decide) (by omega)).mp d
    rw [if_neg (by omega)]
    obtain ⟨k, n, s, t, h1, h2, h3⟩ := HS_at hS (hm.resolve_left (by omega))
    have hk := h1.2.2.2.2.1
    refine Tm_suc (fun k => by rw [x_rank]) ?_
    rw [hL]
    refine Tm_chk (n_in (by omega) (by omega)) ?_
    rw [n_cl (p := m) (by omega)]
    refine Tm_suc (fun k => by rw [x_rank]) ?_
    refine Tm_some ?_
    rw [upd_same, h1.1, n_cl (by omega), n_add1]
  · have d : ¬ 3 ≤ m := fun z => d ((n_le (p := 3) (by decide) (by omega)).mpr z)
    rw [if_pos (by omega)]
    refine Tm_suc (fun k => by rw [x_rank]) ?_
    exact Tm_some rfl
theorem n_sub0 {p q : Nat} (hp : p < 2147483648) (hq : q < 2147483648) : nI p - nI q = 0 ↔ p = q := by
  rw [i_eq, i_sub (by rw [n_int hp, n_int hq]; omega) (by rw [n_int hp, n_int hq]; omega), n_int hp, n_int hq]
  show (p : Int) - q = 0 ↔ _
  omega
theorem n_pred (p : Nat) (h : p < 2147483647) : nI (p + 1) + (-1) = nI p := by
  rw [i_eq, i_add (by rw [n_int (by omega)]; show (-2147483648 : Int) ≤ ((p + 1 : Nat) : Int) + -1; omega) (by rw [n_int (by omega)]; show ((p + 1 : Nat) : Int) + -1 ≤ (2147483647 : Int); omega), n_int (by omega), n_int (by omega)]
  show ((p + 1 : Nat) : Int) + -1 = p
  omega
theorem s_signOf (hS : HS g l B h σ) {m : Nat} (hm : m + 4 < 1740000) {L : Nat → Int32} (hL : L 1 = nI m) : Tm (fun k => x_signOf k 0 L σ) (fun r => r = (σ.2.2 28 (m + 4), σ)) := by
  refine Tm_suc (fun k => by rw [x_signOf]) ?_
  rw [hL, show nI m + 4 = nI (m + 4) from n_add (q := 4) (by omega)]
  refine Tm_chk (n_in (by omega) (by omega)) ?_
  rw [n_cl (p := m + 4) (by omega)]
  exact Tm_some rfl
/-- two rows of limbs -/
theorem s_compareWholes (hS : HS g l B h σ) {a b n m : Nat} (ha : σ.2.2 28 (a + 1) = nI n) (hb : σ.2.2 28 (b + 1) = nI m) (hn : n ≤ 3996) (hm : m ≤ 3996) (han : a + 4 + n ≤ 1740000) (hbm : b + 4 + m ≤ 1740000) (hn1 : 1 ≤ n) (hm1 : 1 ≤ m) {L : Nat → Int32} (h1 : L 1 = nI a) (h2 : L 2 = nI b) : Tm (fun k => x_compareWholes k 0 L σ) (fun r => r.2 = σ) := by
  have l3 : ∀ N : Nat → Int32, N 1 = nI a → Tm (fun k => x_compareWholes k 3 N σ) (fun r => r.2 = σ) := fun N n1 => by
    refine Tm_suc (fun k => by rw [x_compareWholes]) ?_
    refine Tm_ob (s_signOf hS (m := a) (by omega) (by rw [upd_same]; exact n1)) (fun r hr => ?_)
    rw [hr]
    refine Tm_ite (fun _ => ?_) (fun _ => ?_)
    · refine Tm_suc (fun k => by rw [x_compareWholes]) ?_
      refine Tm_suc (fun k => by rw [x_compareWholes]) ?_
      exact Tm_some rfl
    · refine Tm_suc (fun k => by rw [x_compareWholes]) ?_
      exact Tm_some rfl
  have l2 : ∀ (i : Nat) (N : Nat → Int32), i < n → N 1 = nI a → N 2 = nI b → N 6 = nI i → (N 5 = 0 → n = m) → Tm (fun k => x_compareWholes k 2 N σ) (fun r => r.2 = σ) := by
    intro i
    induction i with
    | zero =>
      intro N hi n1 n2 n6 n5
      refine Tm_suc (fun k => by rw [x_compareWholes]) ?_
      rw [n6]
      exact Tm_ite (fun _ => l3 N n1) (fun z => absurd ((n_le0 (by omega)).mpr rfl) z)
    | succ i ih =>
      intro N hi n1 n2 n6 n5
      refine Tm_suc (fun k => by rw [x_compareWholes]) ?_
      rw [n6, n1, n2]
      refine Tm_ite (fun z => absurd ((n_le0 (by omega)).mp z) (by omega)) (fun _ => ?_)
      refine Tm_ite (fun z => ?_) (fun _ => l3 N n1)
      have hnm := n5 z
      rw [show nI a + 4 = nI (a + 4) from n_add (q := 4) (by omega), show nI b + 4 = nI (b + 4) from n_add (q := 4) (by omega), n_add (by omega), n_add (by omega)]
      refine Tm_chk (n_in (by omega) (by omega)) ?_
      refine Tm_chk (n_in (by omega) (by omega)) ?_
      refine ih _ (by omega) ?_ ?_ ?_ (fun _ => hnm)
      · rw [upd_other (by decide), upd_other (by decide)]; exact n1
      · rw [upd_other (by decide), upd_other (by decide)]; exact n2
      · rw [upd_same]
        exact n_pred i (by omega)
  refine Tm_suc (fun k => by rw [x_compareWholes]) ?_
  refine Tm_ob (s_signOf hS (m := a) (by omega) (by rw [upd_same]; exact h1)) (fun r hr => ?_)
  rw [hr]
  refine Tm_ob (s_signOf hS (m := b) (by omega) (by rw [upd_same]; exact h2)) (fun r2 hr2 => ?_)
  rw [hr2]
  refine Tm_ite (fun _ => ?_) (fun _ => ?_)
  · refine Tm_suc (fun k => by rw [x_compareWholes]) ?_
    rw [h1, h2, n_add1, n_add1]
    refine Tm_chk (n_in (by omega) (by omega)) ?_
    refine Tm_chk (n_in (by omega) (by omega)) ?_
    rw [n_cl (p := a + 1) (by omega), n_cl (p := b + 1) (by omega), ha, hb]
    refine l2 (n - 1) _ (by omega) ?_ ?_ ?_ (fun z => ?_)
    · rw [upd_other (by decide), upd_other (by decide), upd_other (by decide), upd_other (by decide)]; exact h1
    · rw [upd_other (by decide), upd_other (by decide), upd_other (by decide), upd_other (by decide)]; exact h2
    · rw [upd_same]
      exact n_sub (p := n) (q := 1) (by omega) (by omega)
    · rw [upd_other (by decide), upd_same] at z
      exact (n_sub0 (by omega) (by omega)).mp z
  · refine Tm_ob (s_signOf hS (m := a) (by omega) (by rw [upd_same]; exact h1)) (fun r hr => ?_)
    rw [hr]
    refine Tm_ob (s_signOf hS (m := b) (by omega) (by rw [upd_same]; exact h2)) (fun r2 hr2 => ?_)
    rw [hr2]
    exact Tm_some rfl
theorem xC_0 (k d b : Nat) (L : Nat → Int32) (σ : MS) : x_GC (k + 1) d 0 b L σ = s_compare (x_GC k) k d b L σ := rfl
theorem s_cmp1 (hS : HS g l B h σ) {d : Nat} (hrec : ∀ e, d = e + 1 → ∀ (a b : Nat) (L : Nat → Int32), (a < 3 ∨ g a) → (b < 3 ∨ g b) → htN (σ.2.2 28) a ≤ e → L 1 = nI a → L 2 = nI b → Tm (fun k => x_GC k e 0 0 L σ) (fun r => r.2 = σ)) {a b : Nat} {L : Nat → Int32} (ha : a < 3 ∨ g a) (hb : b < 3 ∨ g b) (hd : htN (σ.2.2 28) a ≤ d) (h1 : L 1 = nI a) (h2 : L 2 = nI b) : Tm (fun k => x_GC k d 0 0 L σ) (fun r => r.2 = σ) := by
  have ba := HS_vb hS ha
  have bb := HS_vb hS hb
  have hB := HS_b hS
  refine Tm_suc (fun k => by rw [xC_0]) ?_
  refine Tm_ite (fun _ => Tm_some rfl) (fun hne => ?_)
  rw [h1, h2, n_eq (by omega) (by omega)] at hne
  refine Tm_suc (fun k => by rw [xC_0]) ?_
  refine Tm_ob (s_rank hS ha (by rw [upd_same]; exact h1)) (fun r1 hr1 => ?_)
  rw [hr1]
  refine Tm_ob (s_rank hS hb (by rw [upd_same]; exact h2)) (fun r2 hr2 => ?_)
  rw [hr2]
  have rb : ∀ m, (m < 3 ∨ g m) → rkN (σ.2.2 28) m ≤ 7 ∧ (¬ m < 3 → 3 ≤ rkN (σ.2.2 28) m ∧ ∃ k n s t, GOn (σ.2.2 28) g m k n s t ∧ B + 4 ≤ m ∧ m + 4 + n ≤ h ∧ rkN (σ.2.2 28) m = k + 1) ∧ (m < 3 → rkN (σ.2.2 28) m = m) := by
    intro m hm
    unfold rkN
    by_cases c : m < 3
    · rw [if_pos c]; exact ⟨by omega, fun z => absurd c z, fun _ => rfl⟩
    · rw [if_neg c]
      obtain ⟨k, n, s, t, g1, g2, g3⟩ := HS_at hS (hm.resolve_left c)
      have hk := g1.2.2.2.2.1
      rw [g1.1, n_cl (by omega)]
      exact ⟨by omega, fun _ => ⟨by omega, k, n, s, t, g1, g2, g3, rfl⟩, fun z => absurd z c⟩
  obtain ⟨ra1, ra2, ra3⟩ := rb a ha
  obtain ⟨rb1, rb2, rb3⟩ := rb b hb
  refine Tm_ite (fun z => ?_) (fun _ => Tm_some rfl)
  have z := (n_sub0 (by omega) (by omega)).mp z
  have ca : ¬ a < 3 := fun c => by
    have e1 := ra3 c
    by_cases c2 : b < 3
    · have e2 := rb3 c2; omega
    · have e2 := (rb2 c2).1; omega
  have cb : ¬ b < 3 := fun c => by
    have e1 := rb3 c
    have e2 := (ra2 ca).1
    omega
  obtain ⟨_, k, n, s, t, g1, g2, g3, g4⟩ := ra2 ca
  obtain ⟨_, k', m, s', t', f1, f2, f3, f4⟩ := rb2 cb
  have hkk : k' = k := by omega
  subst hkk
  have hk := g1.2.2.2.2.1
  have hn := g1.2.2.2.2.2.2.2.1
  have hm := f1.2.2.2.2.2.2.2.1
  have m1 : upd L 3 (nI (rkN (σ.2.2 28) a) - nI (rkN (σ.2.2 28) b)) 1 = nI a := by rw [upd_other (by decide)]; exact h1
  have m2 : upd L 3 (nI (rkN (σ.2.2 28) a) - nI (rkN (σ.2.2 28) b)) 2 = nI b := by rw [upd_other (by decide)]; exact h2
  generalize upd L 3 (nI (rkN (σ.2.2 28) a) - nI (rkN (σ.2.2 28) b)) = N at m1 m2
  refine Tm_suc (fun k => by rw [xC_0]) ?_
  show Tm (fun k => if ¬ (N 1 < 0 ∨ 1740000 ≤ (N 1).toNatClampNeg) then (if σ.2.2 28 (N 1).toNatClampNeg = 2 then ob (x_compareWholes k 0 (upd (upd (fun _ => 0) 1 (N 1)) 2 (N 2)) σ) (fun r3 => some (r3.1, r3.2)) else x_GC k d 0 3 (upd N 4 (σ.2.2 28 (N 1).toNatClampNeg)) σ) else none) _
  rw [m1, m2]
  refine Tm_chk (n_in (by omega) (by omega)) ?_
  rw [n_cl (p := a) (by omega), g1.1]
  refine Tm_ite (fun c => ?_) (fun c => ?_)
  · have c := (n_eq (q := 2) (by omega) (by decide)).mp c
    refine Tm_ob (s_compareWholes hS g1.2.1 f1.2.1 hn hm (by omega) (by omega) ((g1.2.2.2.2.2.2.2.2.1 c).1) ((f1.2.2.2.2.2.2.2.2.1 c).1) (by rw [upd_other (by decide), upd_same]) upd_same) (fun r3 hr3 => ?_)
    exact Tm_some hr3
  -- rows
  have l4 : ∀ (j i : Nat) (M : Nat → Int32), j + i = n → M 1 = nI a → M 2 = nI b → M 4 = nI k' → M 5 = nI n → M 6 = nI m → M 7 = nI i → Tm (fun f => x_GC f d 0 4 M σ) (fun r => r.2 = σ) := by
    intro j
    induction j with
    | zero =>
      intro i M hi q1 q2 q4 q5 q6 q7
      refine Tm_suc (fun k => by rw [xC_0]) ?_
      show Tm (fun f => if M 5 ≤ M 7 then x_GC f d 0 9 M σ else (if M 6 ≤ M 7 then x_GC f d 0 9 M σ else (if M 4 = 5 then x_GC f d 0 5 M σ else (if M 4 = 6 then x_GC f d 0 5 M σ else x_GC f d 0 6 M σ)))) _
      rw [q5, q7]
      refine Tm_ite (fun _ => ?_) (fun z => absurd ((n_le (by omega) (by omega)).mpr (by omega)) z)
      refine Tm_suc (fun k => by rw [xC_0]) ?_
      exact Tm_some rfl
    | succ j ih =>
      intro i M hi q1 q2 q4 q5 q6 q7
      have nx : ∀ x : Int32, Tm (fun f => x_GC f d 0 7 (upd M 100 x) σ) (fun r => r.2 = σ) := fun x => by
        refine Tm_suc (fun k => by rw [xC_0]) ?_
        show Tm (fun f => if x = 0 then x_GC f d 0 8 (upd (upd M 100 x) 8 x) σ else some (x, σ)) _
        refine Tm_ite (fun _ => ?_) (fun _ => Tm_some rfl)
        refine Tm_suc (fun k => by rw [xC_0]) ?_
        show Tm (fun f => x_GC f d 0 4 (upd (upd (upd M 100 x) 8 x) 7 (M 7 + 1)) σ) _
        refine ih (i + 1) _ (by omega) ?_ ?_ ?_ ?_ ?_ ?_
        · rw [upd_other (by decide), upd_other (by decide), upd_other (by decide)]; exact q1
        · rw [upd_other (by decide), upd_other (by decide), upd_other (by decide)]; exact q2
        · rw [upd_other (by decide), upd_other (by decide), upd_other (by decide)]; exact q4
        · rw [upd_other (by decide), upd_other (by decide), upd_other (by decide)]; exact q5
        · rw [upd_other (by decide), upd_other (by decide), upd_other (by decide)]; exact q6
        · rw [upd_same, q7, n_add1]
      refine Tm_suc (fun k => by rw [xC_0]) ?_
      show Tm (fun f => if M 5 ≤ M 7 then x_GC f d 0 9 M σ else (if M 6 ≤ M 7 then x_GC f d 0 9 M σ else (if M 4 = 5 then x_GC f d 0 5 M σ else (if M 4 = 6 then x_GC f d 0 5 M σ else x_GC f d 0 6 M σ)))) _
      rw [q5, q6, q7, q4]
      refine Tm_ite (fun z => absurd ((n_le (by omega) (by omega)).mp z) (by omega)) (fun _ => ?_)
      refine Tm_ite (fun _ => ?_) (fun z => ?_)
      · refine Tm_suc (fun k => by rw [xC_0]) ?_
        exact Tm_some rfl
      have hi2 : i < m := by
        by_cases w : m ≤ i
        · exact absurd ((n_le (by omega) (by omega)).mpr w) z
        · omega
      have row : 5 ≤ k' → Tm (fun f => x_GC f d 0 5 M σ) (fun r => r.2 = σ) := fun h5 => by
        obtain ⟨x, x1, x2, x3⟩ := (g1.2.2.2.2.2.2.2.2.2.2.2 h5).2 i (by omega)
        obtain ⟨y, y1, y2, y3⟩ := (f1.2.2.2.2.2.2.2.2.2.2.2 h5).2 i hi2
        have ht : htN (σ.2.2 28) a = t := by
          unfold htN
          rw [if_neg ca, g1.2.2.2.1, n_cl (by have := g1.2.2.2.2.2.2.1; omega)]
        obtain ⟨e, he⟩ : ∃ e, d = e + 1 := ⟨d - 1, by omega⟩
        refine Tm_suc (fun k => by rw [xC_0]) ?_
        show Tm (fun f => if ¬ (M 1 + 4 + M 7 < 0 ∨ 1740000 ≤ (M 1 + 4 + M 7).toNatClampNeg) then (if ¬ (M 2 + 4 + M 7 < 0 ∨ 1740000 ≤ (M 2 + 4 + M 7).toNatClampNeg) then od d (fun e3 => ob (x_GC f e3 0 0 (upd (upd (fun _ => 0) 1 (σ.2.2 28 (M 1 + 4 + M 7).toNatClampNeg)) 2 (σ.2.2 28 (M 2 + 4 + M 7).toNatClampNeg)) σ) (fun r3 => x_GC f d 0 7 (upd M 100 r3.1) r3.2)) else none) else none) _
        rw [q1, q2, q7, show nI a + 4 = nI (a + 4) from n_add (q := 4) (by omega), show nI b + 4 = nI (b + 4) from n_add (q := 4) (by omega), n_add (by omega), n_add (by omega)]
        refine Tm_chk (n_in (by omega) (by omega)) ?_
        refine Tm_chk (n_in (by omega) (by omega)) ?_
        rw [n_cl (p := a + 4 + i) (by omega), n_cl (p := b + 4 + i) (by omega), x1, y1]
        have hc := hrec e he x y (upd (upd (fun _ => 0) 1 (nI x)) 2 (nI y)) x2 y2 (by omega) (by rw [upd_other (by decide), upd_same]) upd_same
        rw [he]
        show Tm (fun f => ob (x_GC f e 0 0 (upd (upd (fun _ => 0) 1 (nI x)) 2 (nI y)) σ) (fun r3 => x_GC f (e + 1) 0 7 (upd M 100 r3.1) r3.2)) _
        refine Tm_ob hc (fun r3 hr3 => ?_)
        rw [hr3, ← he]
        exact nx _
      refine Tm_ite (fun z => row (by have := (n_eq (q := 5) (by omega) (by decide)).mp z; omega)) (fun _ => ?_)
      refine Tm_ite (fun z => row (by have := (n_eq (q := 6) (by omega) (by decide)).mp z; omega)) (fun _ => ?_)
      refine Tm_suc (fun k => by rw [xC_0]) ?_
      show Tm (fun f => if ¬ (M 1 + 4 + M 7 < 0 ∨ 1740000 ≤ (M 1 + 4 + M 7).toNatClampNeg) then (if ¬ (M 2 + 4 + M 7 < 0 ∨ 1740000 ≤ (M 2 + 4 + M 7).toNatClampNeg) then x_GC f d 0 7 (upd M 100 (σ.2.2 28 (M 1 + 4 + M 7).toNatClampNeg - σ.2.2 28 (M 2 + 4 + M 7).toNatClampNeg)) σ else none) else none) _
      rw [q1, q2, q7, show nI a + 4 = nI (a + 4) from n_add (q := 4) (by omega), show nI b + 4 = nI (b + 4) from n_add (q := 4) (by omega), n_add (by omega), n_add (by omega)]
      refine Tm_chk (n_in (by omega) (by omega)) ?_
      refine Tm_chk (n_in (by omega) (by omega)) ?_
      exact nx _
  have w1 : upd N 4 (nI k') 1 = nI a := by rw [upd_other (by decide)]; exact m1
  have w2 : upd N 4 (nI k') 2 = nI b := by rw [upd_other (by decide)]; exact m2
  have w4 : upd N 4 (nI k') 4 = nI k' := upd_same
  generalize upd N 4 (nI k') = N2 at w1 w2 w4
  refine Tm_suc (fun k => by rw [xC_0]) ?_
  show Tm (fun f => if ¬ (N2 1 + 1 < 0 ∨ 1740000 ≤ (N2 1 + 1).toNatClampNeg) then (if ¬ (N2 2 + 1 < 0 ∨ 1740000 ≤ (N2 2 + 1).toNatClampNeg) then x_GC f d 0 4 (upd (upd (upd N2 5 (σ.2.2 28 (N2 1 + 1).toNatClampNeg)) 6 (σ.2.2 28 (N2 2 + 1).toNatClampNeg)) 7 0) σ else none) else none) _
  rw [w1, w2, n_add1, n_add1]
  refine Tm_chk (n_in (by omega) (by omega)) ?_
  refine Tm_chk (n_in (by omega) (by omega)) ?_
  rw [n_cl (p := a + 1) (by omega), n_cl (p := b + 1) (by omega), g1.2.1, f1.2.1]
  refine l4 n 0 _ (by omega) ?_ ?_ ?_ ?_ ?_ upd_same
  · rw [upd_other (by decide), upd_other (by decide), upd_other (by decide)]; exact w1
  · rw [upd_other (by decide), upd_other (by decide), upd_other (by decide)]; exact w2
  · rw [upd_other (by decide), upd_other (by decide), upd_other (by decide)]; exact w4
  · rw [upd_other (by decide), upd_other (by decide), upd_same]
  · rw [upd_other (by decide), upd_same]
theorem s_cmpd (hS : HS g l B h σ) : ∀ (d : Nat) (a b : Nat) (L : Nat → Int32), (a < 3 ∨ g a) → (b < 3 ∨ g b) → htN (σ.2.2 28) a ≤ d → L 1 = nI a → L 2 = nI b → Tm (fun k => x_GC k d 0 0 L σ) (fun r => r.2 = σ)
  | 0, a, b, L, ha, hb, hd, h1, h2 => s_cmp1 hS (fun e he => by omega) ha hb hd h1 h2
  | d + 1, a, b, L, ha, hb, hd, h1, h2 => s_cmp1 hS (fun e he => (Nat.succ.inj he) ▸ s_cmpd hS d) ha hb hd h1 h2
/-- two values are compared -/
theorem s_compareV (hS : HS g l B h σ) {a b : Nat} {L : Nat → Int32} (ha : a < 3 ∨ g a) (hb : b < 3 ∨ g b) (h1 : L 1 = nI a) (h2 : L 2 = nI b) : Tm (fun k => x_compare k 0 L σ) (fun r => r.2 = σ) := s_cmpd hS 40 a b L ha hb (by have := (szN_b hS ha).2.2; omega) h1 h2
end CMP
