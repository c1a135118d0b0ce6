variable {yf : Nat × Nat}
/-! A text that is one exp: readExp of the reference. -/
section RE
variable {T : Nat → Int32} {n : Nat}
/-- an exp, at the depth that is kept for it -/
theorem p_exp {E : En} {o q v M P f : Nat} {b : BT} {x : Fl RT} {σ : MS} {L : Nat → Int32} (hG : G T n f 0 E o q v 0 0 0 0 b = some x) (hS : PS T n E o q v b σ) (h1 : 1 ≤ M) (hM : M ≤ b.1) (hP : P ≤ b.2.1) (hn : b.1 + (n + 1 - q) + 966 ≤ 70000) (hp : b.2.1 + (n - q) ≤ 70000) : Tm (fun k => x_exp k 0 L σ) (Po T n E o M P (b.1 + (n + 1 - q) + 963) σ x) :=
  (all_S f f (Nat.le_refl _)).1 E o q v 0 0 b x hG σ L 320 M P hS h1 hM hP (by omega) hp (by omega) trivial
theorem g_exp (E : En) (o q v : Nat) (b : BT) (hq : q ≤ n) (hv : v ≤ 60) (hb : 1 ≤ b.1) : ∃ x, G T n (30 * (n - q) + 21) 0 E o q v 0 0 0 0 b = some x :=
  g_tot T n _ 0 E o q v 0 0 0 0 b (by decide) hq hv hb trivial (by simp only [lvG]; omega)
/-- before the first token -/
def P0 (T : Nat → Int32) (n : Nat) (E : En) (v : Nat) (b : BT) (σ : MS) : Prop := mN σ n ∧ σ.2.2 3 = T ∧ σ.2.2 1 = mT mWords 264 ∧ σ.1 10 = 0 ∧ σ.1 5 = nI 0 ∧ PO σ 0 ∧ PB σ b ∧ PV σ E.2.2.2.1 v b ∧ PN σ E b v ∧ PF σ E
theorem p_first {E : En} {v M P w : Nat} {b : BT} {σ : MS} (h : P0 T n E v b σ) (L : Nat → Int32) : Tm (fun k => x_take k 0 L σ) (fun r => FrM M P w σ r.2 ∧ ((tkK T n (sk T n 0) = 0 ∧ Bb (1, sk T n 0) b.1 r.2) ∨ (¬ tkK T n (sk T n 0) = 0 ∧ PS T n E 0 (sk T n 0) v b r.2))) := by
  obtain ⟨hn, a3, a4, a5, c3, ⟨d1, d2⟩, ⟨e1, e2, e3, e4, e5⟩, ⟨f1, f2, f3, f4, f5⟩, ⟨⟨g1, g2, g3⟩, ⟨g4, g5, g6⟩, ⟨g7, g8, g9⟩⟩, ⟨i1, i2, i3⟩⟩ := h
  have hN : sk T n 0 ≤ n := skE_le T n (n + 1) 0 (Nat.zero_le _)
  have ht := s_take hn a4 c3 (Nat.zero_le _) L
  rw [a3] at ht
  refine Tm_mono ht (fun r hr => ?_)
  obtain ⟨u, υ⟩ := r
  obtain ⟨uu, u2⟩ := υ
  obtain ⟨t1, t2, t3, t4, t5, t6, t7, t8⟩ := hr
  have t1 : u2 = σ.2 := t1
  subst t1
  have t7 : ∀ j, j < 5 ∨ 12 < j → uu j = σ.1 j := t7
  refine ⟨FrM_sc (fun j hj => t7 j (by omega)), ?_⟩
  have hw := tok_w (σ.1 7) T n (sk T n 0)
  rw [hw.1] at t3 t8
  rw [hw.2.1] at t2 t6
  have h0 := tk_0 T n (sk T n 0) hN
  by_cases h6 : (tokM 0 T n (sk T n 0)).1 = 6
  · refine Or.inl ⟨h0.mpr h6, ?_, ?_, ?_⟩
    · rw [if_pos ⟨h6, a5⟩] at t8
      have t81 : uu 10 = 1 := t8.1
      show ¬ uu 10 = 0
      rw [t81]; decide
    · exact (t7 22 (by decide)).trans e1
    · rw [if_pos ⟨h6, a5⟩] at t8
      exact t8.2
  · rw [if_neg (fun z => h6 z.1)] at t8
    refine Or.inr ⟨fun z => h6 (h0.mp z), ⟨⟨(t7 4 (by decide)).trans hn.1, hn.2⟩, a3, a4, t8.1.trans a5, ⟨hN, t5, t2, t6, t3, _, t4⟩, fun z => h6 (h0.mp z)⟩, ⟨(t7 13 (by decide)).trans d1, d2⟩, ⟨(t7 22 (by decide)).trans e1, e2, (t7 24 (by decide)).trans e3, e4, e5⟩, ⟨(t7 37 (by decide)).trans f1, f2, f3, f4, f5⟩, ⟨⟨(t7 38 (by decide)).trans g1, g2, g3⟩, ⟨(t7 52 (by decide)).trans g4, g5, g6⟩, ⟨(t7 25 (by decide)).trans g7, g8, g9⟩⟩, ⟨?_, ?_, i3⟩⟩
    · show uu 43 = 0 ↔ _
      rw [t7 43 (by decide)]; exact i1
    · show uu 42 = 0 ↔ _
      rw [t7 42 (by decide)]; exact i2
/-- what reading an exp leaves -/
def FrX (M P : Nat) (σ σ' : MS) : Prop :=
  (∀ j, ¬ ((5 ≤ j ∧ j ≤ 13) ∨ j = 22 ∨ j = 24 ∨ j = 37 ∨ j = 38 ∨ j = 42 ∨ j = 43 ∨ (45 ≤ j ∧ j ≤ 48) ∨ j = 52) → σ'.1 j = σ.1 j) ∧ σ'.2.1 = σ.2.1 ∧
  (∀ j, ¬ ((4 ≤ j ∧ j ≤ 9) ∨ j = 12 ∨ (20 ≤ j ∧ j ≤ 27)) → σ'.2.2 j = σ.2.2 j) ∧
  (∀ j, 4 ≤ j → j ≤ 9 → ∀ i, 1 ≤ i → i < M → σ'.2.2 j i = σ.2.2 j i) ∧
  (∀ i, i < P → σ'.2.2 12 i = σ.2.2 12 i) ∧ (∀ i, i ≠ 42 → σ'.2.2 21 i = σ.2.2 21 i) ∧ (∀ i, i < 2520 ∨ 2580 ≤ i → σ'.2.2 20 i = σ.2.2 20 i)
theorem FrX_tr {M P : Nat} {σ τ υ : MS} (h : FrX M P σ τ) (g : FrX M P τ υ) : FrX M P σ υ := by
  obtain ⟨a1, a2, a3, a4, a5, a6, a7⟩ := h
  obtain ⟨b1, b2, b3, b4, b5, b6, b7⟩ := g
  exact ⟨fun j hj => (b1 j hj).trans (a1 j hj), b2.trans a2, fun j hj => (b3 j hj).trans (a3 j hj), fun j x y i z u => (b4 j x y i z u).trans (a4 j x y i z u), fun i hi => (b5 i hi).trans (a5 i hi), fun i hi => (b6 i hi).trans (a6 i hi), fun i hi => (b7 i hi).trans (a7 i hi)⟩
theorem FrX_of {M P : Nat} {σ τ : MS} (h : FrM M P 42 σ τ) : FrX M P σ τ := by
  obtain ⟨a1, a2, a3, a4, a5, a6, a7⟩ := h
  exact ⟨fun j hj => a1 j (by omega), a2, a3, a4, a5, a6, fun i hi => a7 i (by omega)⟩
theorem FrX_sc {M P : Nat} {σ : MS} {u : Nat → Int32} (h : ∀ j, ¬ ((5 ≤ j ∧ j ≤ 13) ∨ j = 22 ∨ j = 24 ∨ j = 37 ∨ j = 38 ∨ j = 42 ∨ j = 43 ∨ (45 ≤ j ∧ j ≤ 48) ∨ j = 52) → u j = σ.1 j) : FrX M P σ (u, σ.2.1, σ.2.2) := ⟨h, rfl, fun _ _ => rfl, fun _ _ _ _ _ _ => rfl, fun _ _ => rfl, fun _ _ => rfl, fun _ _ => rfl⟩
/-- a text begins -/
def mBeg (σ : MS) : MS := (upd (upd (upd (upd (upd (upd σ.1 5 0) 10 0) 13 0) 38 0) 52 0) 45 0, σ.2.1, σ.2.2)
theorem s_beginText (L : Nat → Int32) (σ : MS) : Tm (fun k => x_beginText k 0 L σ) (fun r => r = (0, mBeg σ)) := by
  refine Tm_suc (fun k => by rw [x_beginText]) ?_
  refine Tm_suc (fun k => by rw [x_beginText]) ?_
  refine Tm_suc (fun k => by rw [x_beginText]) ?_
  refine Tm_suc (fun k => by rw [x_beginText]) ?_
  refine Tm_suc (fun k => by rw [x_beginText]) ?_
  refine Tm_suc (fun k => by rw [x_beginText]) ?_
  exact Tm_some rfl
/-- the program as it stands between calls: its names, params, what is laid -/
def PG (gl : List Gn) (pr : Nat → Nat) (b : BT) (σ : MS) : Prop := σ.2.2 1 = mT mWords 264 ∧ PB σ b ∧ (σ.1 25 = nI gl.length ∧ gl.length ≤ 200 ∧ glOK (σ.2.2 13) (σ.2.2 14) (σ.2.2 15) (σ.2.2 16) b.2.2.2.1 b.2.1 gl) ∧ (∀ x ∈ gl, ¬ x.2.2.1 = 1 → x.2.2.2 < 41 ∧ σ.2.2 18 x.2.2.2 = nI (pr x.2.2.2) ∧ pr x.2.2.2 ≤ 8)
/-- one exp, and nothing behind it -/
def gX (T : Nat → Int32) (n f : Nat) (E : En) (b : BT) : RG := if tkK T n (sk T n 0) = 0 then some (Sum.inl (1, sk T n 0)) else gb (G T n f 0 E 0 (sk T n 0) 0 0 0 0 0 b) (fun r => if tkK T n r.1 = 25 then some (Sum.inr r) else some (Sum.inl (2, r.1)))
theorem gX_tot (E : En) (b : BT) (hb : 1 ≤ b.1) : ∃ x, gX T n (30 * n + 21) E b = some x := by
  unfold gX
  by_cases c : tkK T n (sk T n 0) = 0
  · exact ⟨_, if_pos c⟩
  rw [if_neg c]
  have hN : sk T n 0 ≤ n := skE_le T n (n + 1) 0 (Nat.zero_le _)
  refine gb_t (g_tot T n _ 0 E 0 (sk T n 0) 0 0 0 0 0 b (by decide) hN (by decide) hb trivial (by simp only [lvG]; omega)) (fun r _ => ?_)
  by_cases c2 : tkK T n r.1 = 25
  · exact ⟨Sum.inr r, if_pos c2⟩
  · exact ⟨_, if_neg c2⟩
theorem p_readExp {gl : List Gn} {pr : Nat → Nat} {b : BT} {dr : Nat} {f : Nat} {x : Fl RT} {σ : MS} {L : Nat → Int32} (hG : gX T n f (gl, [], [], 42, false, decide (dr = 1), pr) b = some x) (hn : mN σ n) (hT : σ.2.2 3 = T) (h : PG gl pr b σ) (hdr : dr ≤ 1) (hL : L 1 = nI dr) (hb : b.1 + n + 967 ≤ 70000) (hp : b.2.1 + n ≤ 70000) :
    Tm (fun k => x_readExp k 0 L σ) (fun r => FrX b.1 b.2.1 σ r.2 ∧ r.2.1 37 = 0 ∧ (match x with
      | Sum.inl yf => Fb yf r.2
      | Sum.inr t => r.2.1 10 = 0 ∧ r.1 = nI t.2.2.2.1 ∧ PB r.2 t.2.2.2.2.1 ∧ b.1 ≤ t.2.2.2.1 ∧ t.2.2.2.1 < t.2.2.2.2.1.1 ∧ t.2.1 ≤ 60)) := by
  obtain ⟨a4, ⟨e1, e2, e3, e4, e5⟩, ⟨g7, g8, g9⟩, i3⟩ := h
  obtain ⟨n1, n2⟩ := hn
  have h01 : nI dr = 0 ∨ nI dr = 1 := by
    have : dr = 0 ∨ dr = 1 := by omega
    rcases this with rfl | rfl
    · exact Or.inl rfl
    · exact Or.inr rfl
  refine Tm_suc (fun k => by rw [x_readExp]) ?_
  refine Tm_ob (s_beginText _ σ) (fun r1 hr1 => ?_)
  subst hr1
  refine Tm_suc (fun k => by rw [x_readExp]) ?_
  refine Tm_chk (by decide) ?_
  refine Tm_suc (fun k => by rw [x_readExp]) ?_
  refine Tm_chk (by rw [hL]; exact h01) ?_
  refine Tm_suc (fun k => by rw [x_readExp]) ?_
  -- the state before the first token
  have c42 : (42 : Int32).toNatClampNeg = 42 := by decide
  rw [hL]
  show Tm (fun k => x_readExp k 4 L (upd (upd (upd (mBeg σ).1 37 42) 42 (nI dr)) 43 0, σ.2.1, updG σ.2.2 21 (upd (σ.2.2 21) (42 : Int32).toNatClampNeg 0))) _
  rw [c42]
  have rd : ∀ j, ¬ (j = 5 ∨ j = 10 ∨ j = 13 ∨ j = 37 ∨ j = 38 ∨ j = 42 ∨ j = 43 ∨ j = 45 ∨ j = 52) → (upd (upd (upd (mBeg σ).1 37 42) 42 (nI dr)) 43 0) j = σ.1 j := fun j hj => by
    show upd (upd (upd (upd (upd (upd (upd (upd (upd σ.1 5 0) 10 0) 13 0) 38 0) 52 0) 45 0) 37 42) 42 (nI dr)) 43 0 j = _
    rw [upd_other (by omega), upd_other (by omega), upd_other (by omega), upd_other (by omega), upd_other (by omega), upd_other (by omega), upd_other (by omega), upd_other (by omega), upd_other (by omega)]
  have og : ∀ j, j ≠ 21 → (updG σ.2.2 21 (upd (σ.2.2 21) 42 0)) j = σ.2.2 j := fun j hj => updG_other hj
  have hF0 : FrX b.1 b.2.1 σ (upd (upd (upd (mBeg σ).1 37 42) 42 (nI dr)) 43 0, σ.2.1, updG σ.2.2 21 (upd (σ.2.2 21) 42 0)) := by
    refine ⟨fun j hj => rd j (by omega), rfl, fun j hj => og j (by omega), fun j h4 h9 i _ _ => ?_, fun i _ => ?_, fun i hi => ?_, fun i _ => ?_⟩
    · show (updG σ.2.2 21 (upd (σ.2.2 21) 42 0)) j i = _
      rw [og j (by omega)]
    · show (updG σ.2.2 21 (upd (σ.2.2 21) 42 0)) 12 i = _
      rw [og 12 (by decide)]
    · show updG σ.2.2 21 (upd (σ.2.2 21) 42 0) 21 i = _
      rw [updG_same, upd_other hi]
    · show (updG σ.2.2 21 (upd (σ.2.2 21) 42 0)) 20 i = _
      rw [og 20 (by decide)]
  have hP0 : P0 T n (gl, [], [], 42, false, decide (dr = 1), pr) 0 b (upd (upd (upd (mBeg σ).1 37 42) 42 (nI dr)) 43 0, σ.2.1, updG σ.2.2 21 (upd (σ.2.2 21) 42 0)) := by
    refine ⟨⟨(rd 4 (by decide)).trans n1, n2⟩, (og 3 (by decide)).trans hT, (og 1 (by decide)).trans a4, ?_, ?_, ⟨?_, by decide⟩, ⟨(rd 22 (by decide)).trans e1, e2, (rd 24 (by decide)).trans e3, fun j h4 h9 i hi hi2 => ?_, fun i hi => ?_⟩, ⟨?_, Nat.le_refl _, ?_, by decide, fun i hi => absurd hi (Nat.not_lt_zero i)⟩, ⟨⟨?_, Nat.le_refl _, trivial⟩, ⟨?_, Nat.le_refl _, trivial⟩, ⟨(rd 25 (by decide)).trans g7, g8, ?_⟩⟩, ⟨?_, ?_, ?_⟩⟩
    · show upd (upd (upd (upd (upd (upd (upd (upd (upd σ.1 5 0) 10 0) 13 0) 38 0) 52 0) 45 0) 37 42) 42 (nI dr)) 43 0 10 = 0
      rw [upd_other (by decide), upd_other (by decide), upd_other (by decide), upd_other (by decide), upd_other (by decide), upd_other (by decide), upd_other (by decide), upd_same]
    · show upd (upd (upd (upd (upd (upd (upd (upd (upd σ.1 5 0) 10 0) 13 0) 38 0) 52 0) 45 0) 37 42) 42 (nI dr)) 43 0 5 = 0
      rw [upd_other (by decide), upd_other (by decide), upd_other (by decide), upd_other (by decide), upd_other (by decide), upd_other (by decide), upd_other (by decide), upd_other (by decide), upd_same]
    · show upd (upd (upd (upd (upd (upd (upd (upd (upd σ.1 5 0) 10 0) 13 0) 38 0) 52 0) 45 0) 37 42) 42 (nI dr)) 43 0 13 = 0
      rw [upd_other (by decide), upd_other (by decide), upd_other (by decide), upd_other (by decide), upd_other (by decide), upd_other (by decide), upd_same]
    · show (updG σ.2.2 21 (upd (σ.2.2 21) 42 0)) j i = _
      rw [og j (by omega)]; exact e4 j h4 h9 i hi hi2
    · show (updG σ.2.2 21 (upd (σ.2.2 21) 42 0)) 12 i = _
      rw [og 12 (by decide)]; exact e5 i hi
    · show upd (upd (upd (mBeg σ).1 37 42) 42 (nI dr)) 43 0 37 = nI 42
      rw [upd_other (by decide), upd_other (by decide), upd_same]; rfl
    · show updG σ.2.2 21 (upd (σ.2.2 21) 42 0) 21 42 = nI 0
      rw [updG_same, upd_same]; rfl
    · show upd (upd (upd (upd (upd (upd (upd (upd (upd σ.1 5 0) 10 0) 13 0) 38 0) 52 0) 45 0) 37 42) 42 (nI dr)) 43 0 38 = 0
      rw [upd_other (by decide), upd_other (by decide), upd_other (by decide), upd_other (by decide), upd_other (by decide), upd_same]
    · show upd (upd (upd (upd (upd (upd (upd (upd (upd σ.1 5 0) 10 0) 13 0) 38 0) 52 0) 45 0) 37 42) 42 (nI dr)) 43 0 52 = 0
      rw [upd_other (by decide), upd_other (by decide), upd_other (by decide), upd_other (by decide), upd_same]
    · show glOK ((updG σ.2.2 21 (upd (σ.2.2 21) 42 0)) 13) ((updG σ.2.2 21 (upd (σ.2.2 21) 42 0)) 14) ((updG σ.2.2 21 (upd (σ.2.2 21) 42 0)) 15) ((updG σ.2.2 21 (upd (σ.2.2 21) 42 0)) 16) _ _ _
      rw [og 13 (by decide), og 14 (by decide), og 15 (by decide), og 16 (by decide)]; exact g9
    · show upd (upd (upd (mBeg σ).1 37 42) 42 (nI dr)) 43 0 43 = 0 ↔ _
      rw [upd_same]; exact ⟨fun _ => rfl, fun _ => rfl⟩
    · show upd (upd (upd (mBeg σ).1 37 42) 42 (nI dr)) 43 0 42 = 0 ↔ decide (dr = 1) = false
      rw [upd_other (by decide), upd_same]
      have : dr = 0 ∨ dr = 1 := by omega
      rcases this with rfl | rfl
      · decide
      · decide
    · show ∀ x ∈ gl, ¬ x.2.2.1 = 1 → x.2.2.2 < 41 ∧ (updG σ.2.2 21 (upd (σ.2.2 21) 42 0)) 18 x.2.2.2 = nI (pr x.2.2.2) ∧ pr x.2.2.2 ≤ 8
      rw [og 18 (by decide)]; exact i3
  generalize ((upd (upd (upd (mBeg σ).1 37 42) 42 (nI dr)) 43 0, σ.2.1, updG σ.2.2 21 (upd (σ.2.2 21) 42 0)) : MS) = ρ at hP0 hF0
  -- the end: the unit is the program's again
  have fin : ∀ (υ : MS) (N : Nat → Int32), FrX b.1 b.2.1 σ υ → (match x with
      | Sum.inl yf => Fb yf υ
      | Sum.inr t => υ.1 10 = 0 ∧ N 2 = nI t.2.2.2.1 ∧ PB υ t.2.2.2.2.1 ∧ b.1 ≤ t.2.2.2.1 ∧ t.2.2.2.1 < t.2.2.2.2.1.1 ∧ t.2.1 ≤ 60) → Tm (fun k => x_readExp k 5 N υ) (fun r => FrX b.1 b.2.1 σ r.2 ∧ r.2.1 37 = 0 ∧ (match x with
      | Sum.inl yf => Fb yf r.2
      | Sum.inr t => r.2.1 10 = 0 ∧ r.1 = nI t.2.2.2.1 ∧ PB r.2 t.2.2.2.2.1 ∧ b.1 ≤ t.2.2.2.1 ∧ t.2.2.2.1 < t.2.2.2.2.1.1 ∧ t.2.1 ≤ 60)) := fun υ N hF hx => by
    refine Tm_suc (fun k => by rw [x_readExp]) ?_
    refine Tm_suc (fun k => by rw [x_readExp]) ?_
    refine Tm_some ⟨FrX_tr hF (FrX_sc (fun j hj => upd_other (by omega))), (upd_same : upd υ.1 37 0 37 = 0), ?_⟩
    cases x with
    | inl yf =>
      exact Fb_f hx (fun j hj => upd_other (by omega))
    | inr t =>
      obtain ⟨k1, k2, k3, k4⟩ := hx
      refine ⟨?_, k2, PB_c (σ := υ) (show upd υ.1 37 0 22 = υ.1 22 from upd_other (by decide)) (show upd υ.1 37 0 24 = υ.1 24 from upd_other (by decide)) (fun _ _ => rfl) k3, k4⟩
      show upd υ.1 37 0 10 = 0
      rw [upd_other (by decide)]; exact k1
  refine Tm_suc (fun k => by rw [x_readExp]) ?_
  refine Tm_ob (p_first (M := b.1) (P := b.2.1) (w := 42) hP0 _) (fun r1 hr1 => ?_)
  have hF1 := FrX_tr hF0 (FrX_of hr1.1)
  have hN : sk T n 0 ≤ n := skE_le T n (n + 1) 0 (Nat.zero_le _)
  unfold gX at hG
  by_cases c : tkK T n (sk T n 0) = 0
  · rw [if_pos c] at hG
    have hx := (Option.some.inj hG).symm
    subst hx
    rcases hr1.2 with ⟨_, hB⟩ | ⟨z, _⟩
    · refine Tm_ob (P := fun r => r = (0, r1.2)) (b_exp (d := 313) hB.1) (fun r2 hr2 => ?_)
      subst hr2
      exact Tm_ite (c := r1.2.1 10 = 0) (fun z => absurd z hB.1) (fun _ => fin r1.2 _ hF1 (Bb_Fb hB))
    · exact absurd c z
  rw [if_neg c] at hG
  rcases hr1.2 with ⟨z, _⟩ | ⟨_, hS1⟩
  · exact absurd z c
  rcases gb_any hG with ⟨yf, h7, hx⟩ | ⟨s, h7, hG⟩
  · subst hx
    refine Tm_ob (p_exp (M := b.1) (P := b.2.1) h7 hS1 e2 (Nat.le_refl _) (Nat.le_refl _) (by omega) (by omega)) (fun r2 hr2 => ?_)
    obtain ⟨⟨m, hB, _, _⟩, _, hF2⟩ := hr2
    exact Tm_ite (c := r2.2.1 10 = 0) (fun z => absurd z hB.1) (fun _ => fin r2.2 _ (FrX_tr hF1 (FrX_of hF2)) (Bb_Fb hB))
  obtain ⟨⟨a1, a2, a3, a4', a5, a6, a7, a8⟩, a9⟩ := mo_of (M := b.1) hN (by decide) h7 (Nat.le_refl _) e2 trivial (fun h => h) (fun h => h)
  refine Tm_ob (p_exp (M := b.1) (P := b.2.1) h7 hS1 e2 (Nat.le_refl _) (Nat.le_refl _) (by omega) (by omega)) (fun r2 hr2 => ?_)
  obtain ⟨hS2, hr21, hF2⟩ := hr2
  have hF2 := FrX_tr hF1 (FrX_of hF2)
  have ck := (cur_kind (PS_cur hS2)).1
  have hv2 := PS_v hS2
  refine Tm_ite (c := r2.2.1 10 = 0) (fun _ => ?_) (fun z => absurd (PS_ok hS2) z)
  refine Tm_ite (c := r2.2.1 6 = 0) (fun z => ?_) (fun z => ?_)
  · rw [if_pos (ck.mp z)] at hG
    have hx : x = Sum.inr s := (Option.some.inj hG).symm
    subst hx
    exact fin r2.2 _ hF2 ⟨PS_ok hS2, by rw [upd_same]; exact hr21, hS2.2.2.1, a9.1, a9.2, hv2⟩
  · rw [if_neg (fun y => z (ck.mpr y))] at hG
    have hx := (Option.some.inj hG).symm
    subst hx
    refine Tm_ob (p_cannot (M := b.1) (P := b.2.1) (w := 42) hS2 _) (fun r5 hr5 => ?_)
    exact fin r5.2 _ (FrX_tr hF2 (FrX_of hr5.2)) (Bb_Fb hr5.1)
end RE
