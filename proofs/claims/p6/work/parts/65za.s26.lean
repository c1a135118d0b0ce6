/-! How the reference holds what is read: PS. What stays: FrM. After a fault: Bb. -/
def rowsOK (A B C pool : Nat → Int32) (p : Nat) : List Nm → Prop
  | [] => True
  | x :: l => (A l.length = nI x.2.1 ∧ B l.length = nI x.1.length ∧ C l.length = nI x.2.2 ∧ x.2.1 + x.1.length ≤ p ∧ x.2.2 < 60 ∧ ∀ i, i < x.1.length → pool (x.2.1 + i) = x.1.getD i 0) ∧ rowsOK A B C pool p l
theorem rowsOK_mono {A B C A' B' C' pool pool' : Nat → Int32} {p p' : Nat} : ∀ l : List Nm, (∀ i, i < l.length → A' i = A i ∧ B' i = B i ∧ C' i = C i) → (∀ i, i < p → pool' i = pool i) → p ≤ p' → rowsOK A B C pool p l → rowsOK A' B' C' pool' p' l
  | [], _, _, _, _ => trivial
  | x :: l, h1, h2, h3, ⟨⟨a, b, c, d, d2, e⟩, h⟩ => by
    have hl := h1 l.length (by simp)
    refine ⟨⟨hl.1.trans a, hl.2.1.trans b, hl.2.2.trans c, by omega, d2, fun i hi => ?_⟩, rowsOK_mono l (fun i hi => h1 i (by simp; omega)) h2 h3 h⟩
    rw [h2 _ (by omega)]; exact e i hi
def glOK (A B C D pool : Nat → Int32) (p : Nat) (gl : List Gn) : Prop := ∀ (k : Nat) (x : Gn), gl[k]? = some x → A k = nI x.2.2.1 ∧ B k = nI x.2.1 ∧ C k = nI x.1.length ∧ D k = nI x.2.2.2 ∧ x.2.1 + x.1.length ≤ p ∧ x.2.2.1 ≤ 3 ∧ 1 ≤ x.2.2.1 ∧ x.2.2.2 < 60 ∧ ∀ i, i < x.1.length → pool (x.2.1 + i) = x.1.getD i 0
def PT (T : Nat → Int32) (n : Nat) (σ : MS) (q : Nat) : Prop := mN σ n ∧ σ.2.2 3 = T ∧ σ.2.2 1 = mT mWords 264 ∧ σ.1 10 = 0 ∧ mCur T n σ q ∧ ¬ tkK T n q = 0
def PO (σ : MS) (o : Nat) : Prop := σ.1 13 = nI o ∧ o ≤ 20
def PB (σ : MS) (b : BT) : Prop := σ.1 22 = nI b.1 ∧ 1 ≤ b.1 ∧ σ.1 24 = nI b.2.1 ∧ (∀ j, 4 ≤ j → j ≤ 9 → ∀ i, 1 ≤ i → i < b.1 → σ.2.2 j i = b.2.2.1 j i) ∧ (∀ i, i < b.2.1 → σ.2.2 12 i = b.2.2.2.1 i)
def PV (σ : MS) (w v : Nat) (b : BT) : Prop := σ.1 37 = nI w ∧ w ≤ 42 ∧ σ.2.2 21 w = nI v ∧ v ≤ 60 ∧ (∀ i, i < v → σ.2.2 20 (60 * w + i) = b.2.2.2.2 (60 * w + i))
def PN (σ : MS) (E : En) (b : BT) (v : Nat) : Prop :=
  (σ.1 38 = nI E.2.1.length ∧ E.2.1.length ≤ v ∧ rowsOK (σ.2.2 22) (σ.2.2 23) (σ.2.2 24) b.2.2.2.1 b.2.1 E.2.1) ∧
  (σ.1 52 = nI E.2.2.1.length ∧ E.2.2.1.length ≤ v ∧ rowsOK (σ.2.2 25) (σ.2.2 26) (σ.2.2 27) b.2.2.2.1 b.2.1 E.2.2.1) ∧
  (σ.1 25 = nI E.1.length ∧ E.1.length ≤ 200 ∧ glOK (σ.2.2 13) (σ.2.2 14) (σ.2.2 15) (σ.2.2 16) b.2.2.2.1 b.2.1 E.1)
def PF (σ : MS) (E : En) : Prop := (σ.1 43 = 0 ↔ E.2.2.2.2.1 = false) ∧ (σ.1 42 = 0 ↔ E.2.2.2.2.2.1 = false) ∧ (∀ x ∈ E.1, ¬ x.2.2.1 = 1 → x.2.2.2 < 41 ∧ σ.2.2 18 x.2.2.2 = nI (E.2.2.2.2.2.2 x.2.2.2) ∧ E.2.2.2.2.2.2 x.2.2.2 ≤ 8)
def PS (T : Nat → Int32) (n : Nat) (E : En) (o q v : Nat) (b : BT) (σ : MS) : Prop := PT T n σ q ∧ PO σ o ∧ PB σ b ∧ PV σ E.2.2.2.1 v b ∧ PN σ E b v ∧ PF σ E
/-- what a text's reading leaves: nodes below M, the pool below P, other units' variables, all that is not the parser's -/
def FrM (M P w : Nat) (σ σ' : MS) : Prop :=
  (∀ j, ¬ ((5 ≤ j ∧ j ≤ 13) ∨ j = 22 ∨ j = 24 ∨ j = 38 ∨ (46 ≤ j ∧ j ≤ 48) ∨ j = 52) → σ'.1 j = σ.1 j) ∧ σ'.2.1 = σ.2.1 ∧
  (∀ j, ¬ ((4 ≤ j ∧ j ≤ 9) ∨ j = 12 ∨ (20 ≤ j ∧ j ≤ 27)) → σ'.2.2 j = σ.2.2 j) ∧
  (∀ j, 4 ≤ j → j ≤ 9 → ∀ i, 1 ≤ i → i < M → σ'.2.2 j i = σ.2.2 j i) ∧
  (∀ i, i < P → σ'.2.2 12 i = σ.2.2 12 i) ∧ (∀ i, i ≠ w → σ'.2.2 21 i = σ.2.2 21 i) ∧ (∀ i, i < 60 * w ∨ 60 * w + 60 ≤ i → σ'.2.2 20 i = σ.2.2 20 i)
theorem FrM_rf {M P w : Nat} {σ : MS} : FrM M P w σ σ := ⟨fun _ _ => rfl, rfl, fun _ _ => rfl, fun _ _ _ _ _ _ => rfl, fun _ _ => rfl, fun _ _ => rfl, fun _ _ => rfl⟩
theorem FrM_tr {M P w : Nat} {σ τ υ : MS} (h : FrM M P w σ τ) (g : FrM M P w τ υ) : FrM M P w σ υ := by
  obtain ⟨a1, a2, a3, a4, a5, a6, a7⟩ := h
  obtain ⟨b1, b2, b3, b4, b5, b6, b7⟩ := g
  exact ⟨fun j hj => (b1 j hj).trans (a1 j hj), b2.trans a2, fun j hj => (b3 j hj).trans (a3 j hj), fun j x y i z u => (b4 j x y i z u).trans (a4 j x y i z u), fun i hi => (b5 i hi).trans (a5 i hi), fun i hi => (b6 i hi).trans (a6 i hi), fun i hi => (b7 i hi).trans (a7 i hi)⟩
/-- a change of the parser's own numbers alone -/
theorem FrM_sc {M P w : Nat} {σ : MS} {u : Nat → Int32} (h : ∀ j, ¬ ((5 ≤ j ∧ j ≤ 13) ∨ j = 22 ∨ j = 24 ∨ j = 38 ∨ (46 ≤ j ∧ j ≤ 48) ∨ j = 52) → u j = σ.1 j) : FrM M P w σ (u, σ.2.1, σ.2.2) := ⟨h, rfl, fun _ _ => rfl, fun _ _ _ _ _ _ => rfl, fun _ _ => rfl, fun _ _ => rfl, fun _ _ => rfl⟩
def Bb (m : Nat) (σ : MS) : Prop := ¬ σ.1 10 = 0 ∧ σ.1 22 = nI m
theorem tk_0 (T : Nat → Int32) (n q : Nat) (hq : q ≤ n) : tkK T n q = 0 ↔ (tokM 0 T n q).1 = 6 := by
  rcases tk_cases T n q hq with ⟨_, a, b⟩ | ⟨_, ⟨a, b⟩ | ⟨a, b⟩ | ⟨a, b⟩ | ⟨a, b1, b2, b3⟩ | ⟨a, b1, b2, b3⟩ | ⟨a, b⟩⟩
  · rw [a, b]; decide
  · rw [a, b]; decide
  · rw [a, b]; decide
  · rw [a, b]; decide
  · rw [a]; exact ⟨fun h => by omega, fun h => absurd h (by decide)⟩
  · rw [a]; exact ⟨fun h => by omega, fun h => absurd h (by decide)⟩
  · rw [a, b]; decide
section PSR
variable {T : Nat → Int32} {n : Nat} {E : En} {o q v M P w : Nat} {b : BT} {σ : MS}
/-- the same with other numbers of no matter -/
theorem PS_sc {u : Nat → Int32} (h : PS T n E o q v b σ) (hu : ∀ j, j = 4 ∨ (5 ≤ j ∧ j ≤ 10) ∨ j = 13 ∨ j = 22 ∨ j = 24 ∨ j = 25 ∨ j = 37 ∨ j = 38 ∨ j = 42 ∨ j = 43 ∨ j = 52 → u j = σ.1 j) : PS T n E o q v b (u, σ.2.1, σ.2.2) := by
  obtain ⟨⟨⟨a1, a2⟩, a3, a4, a5, ⟨c1, c2, c3, c4, c5, c6⟩, a6⟩, ⟨d1, d2⟩, ⟨e1, e2, e3, e4, e5⟩, ⟨f1, f2, f3, f4, f5⟩, ⟨⟨g1, g2, g3⟩, ⟨g4, g5, g6⟩, ⟨g7, g8, g9⟩⟩, ⟨i1, i2, i3⟩⟩ := h
  have r : ∀ j, j = 4 ∨ (5 ≤ j ∧ j ≤ 10) ∨ j = 13 ∨ j = 22 ∨ j = 24 ∨ j = 25 ∨ j = 37 ∨ j = 38 ∨ j = 42 ∨ j = 43 ∨ j = 52 → ((u, σ.2.1, σ.2.2) : MS).1 j = σ.1 j := hu
  refine ⟨⟨⟨(r 4 (by decide)).trans a1, a2⟩, a3, a4, (r 10 (by decide)).trans a5, ⟨c1, (r 8 (by decide)).trans c2, (r 5 (by decide)).trans c3, (r 9 (by decide)).trans c4, (r 6 (by decide)).trans c5, ?_⟩, a6⟩, ⟨(r 13 (by decide)).trans d1, d2⟩, ⟨(r 22 (by decide)).trans e1, e2, (r 24 (by decide)).trans e3, e4, e5⟩, ⟨(r 37 (by decide)).trans f1, f2, f3, f4, f5⟩, ⟨⟨(r 38 (by decide)).trans g1, g2, g3⟩, ⟨(r 52 (by decide)).trans g4, g5, g6⟩, ⟨(r 25 (by decide)).trans g7, g8, g9⟩⟩, ⟨?_, ?_, i3⟩⟩
  · obtain ⟨w, hw⟩ := c6
    exact ⟨w, (r 7 (by decide)).trans hw⟩
  · rw [r 43 (by decide)]; exact i1
  · rw [r 42 (by decide)]; exact i2
theorem p_take (h : PS T n E o q v b σ) (L : Nat → Int32) : Tm (fun k => x_take k 0 L σ) (fun r => FrM M P w σ r.2 ∧ ((tkK T n (tkN T n q) = 0 ∧ Bb b.1 r.2) ∨ (¬ tkK T n (tkN T n q) = 0 ∧ PS T n E o (tkN T n q) v b r.2))) := by
  obtain ⟨⟨hn, a3, a4, a5, ⟨c1, c2, c3, c4, c5, c6⟩, a6⟩, ⟨d1, d2⟩, ⟨e1, e2, e3, e4, e5⟩, ⟨f1, f2, f3, f4, f5⟩, ⟨⟨g1, g2, g3⟩, ⟨g4, g5, g6⟩, ⟨g7, g8, g9⟩⟩, ⟨i1, i2, i3⟩⟩ := h
  have hE := tkE_b T n q c1
  have hN := tkN_b T n q c1
  have ht := s_take hn a4 c3 hE.2.1 L
  rw [a3] at ht
  refine Tm_mono ht (fun r hr => ?_)
  obtain ⟨u, υ⟩ := r
  obtain ⟨uu, u2⟩ := υ
  obtain ⟨t1, t2, t3, t4, t5, t6, t7, t8⟩ := hr
  have t1 : u2 = σ.2 := t1
  subst t1
  have t7 : ∀ j, j < 5 ∨ 12 < j → uu j = σ.1 j := t7
  refine ⟨FrM_sc (fun j hj => t7 j (by omega)), ?_⟩
  have hw := tok_w (σ.1 7) T n (tkN T n q)
  have e0 : (sk T n (tkE T n q)) = tkN T n q := rfl
  rw [e0] at t2 t3 t4 t5 t6 t8
  rw [hw.1] at t3 t8
  rw [hw.2.1] at t2 t6
  have h0 := tk_0 T n (tkN T n q) hN.2.1
  by_cases h6 : (tokM 0 T n (tkN T n q)).1 = 6
  · refine Or.inl ⟨h0.mpr h6, ?_, ?_⟩
    · rw [if_pos ⟨h6, a5⟩] at t8
      have t81 : uu 10 = 1 := t8.1
      show ¬ uu 10 = 0
      rw [t81]; decide
    · exact (t7 22 (by decide)).trans e1
  · rw [if_neg (fun z => h6 z.1)] at t8
    refine Or.inr ⟨fun z => h6 (h0.mp z), ⟨⟨(t7 4 (by decide)).trans hn.1, hn.2⟩, a3, a4, t8.1.trans a5, ⟨hN.2.1, t5, t2, t6, t3, _, t4⟩, fun z => h6 (h0.mp z)⟩, ⟨(t7 13 (by decide)).trans d1, d2⟩, ⟨(t7 22 (by decide)).trans e1, e2, (t7 24 (by decide)).trans e3, e4, e5⟩, ⟨(t7 37 (by decide)).trans f1, f2, f3, f4, f5⟩, ⟨⟨(t7 38 (by decide)).trans g1, g2, g3⟩, ⟨(t7 52 (by decide)).trans g4, g5, g6⟩, ⟨(t7 25 (by decide)).trans g7, g8, g9⟩⟩, ⟨?_, ?_, i3⟩⟩
    · show uu 43 = 0 ↔ _
      rw [t7 43 (by decide)]; exact i1
    · show uu 42 = 0 ↔ _
      rw [t7 42 (by decide)]; exact i2
theorem PS_ok (h : PS T n E o q v b σ) : σ.1 10 = 0 := h.1.2.2.2.1
theorem PS_cur (h : PS T n E o q v b σ) : mCur T n σ q := h.1.2.2.2.2.1
theorem PS_q (h : PS T n E o q v b σ) : q ≤ n ∧ n ≤ 32768 := ⟨h.1.2.2.2.2.1.1, h.1.1.2⟩
theorem PS_m (h : PS T n E o q v b σ) : σ.1 22 = nI b.1 := h.2.2.1.1
theorem p_sign (h : PS T n E o q v b σ) {s : Nat} (h1 : 1 ≤ s) (h2 : s ≤ 24) {L : Nat → Int32} (hL : L 1 = nI s) : Tm (fun k => x_isSign k 0 L σ) (fun r => r.2 = σ ∧ (¬ r.1 = 0 ↔ tkK T n q = s)) :=
  Tm_mono (s_isSign L σ) (fun r hr => ⟨hr.1, by rw [hr.2, hL]; exact cur_sign (PS_cur h) h1 h2⟩)
theorem p_word (h : PS T n E o q v b σ) {s : Nat} (h1 : s < 53) {L : Nat → Int32} (hL : L 1 = nI s) : Tm (fun k => x_isWord k 0 L σ) (fun r => r.2 = σ ∧ (¬ r.1 = 0 ↔ tkK T n q = 32 + s)) :=
  Tm_mono (s_isWord L σ) (fun r hr => ⟨hr.1, by rw [hr.2, hL]; exact cur_word (PS_cur h) h1⟩)
/-- a fault where there was none -/
theorem flt_b {m : Nat} (h0 : σ.1 10 = 0) (h : σ.1 22 = nI m) (x y : Int32) : Bb m (mFlt σ x y) ∧ FrM M P w σ (mFlt σ x y) := by
  unfold mFlt
  rw [if_pos h0]
  refine ⟨⟨?_, ?_⟩, FrM_sc (fun j hj => ?_)⟩
  · show ¬ upd (upd (upd σ.1 10 1) 11 x) 12 y 10 = 0
    rw [upd_other (by decide), upd_other (by decide), upd_same]; decide
  · show upd (upd (upd σ.1 10 1) 11 x) 12 y 22 = nI m
    rw [upd_other (by decide), upd_other (by decide), upd_other (by decide)]; exact h
  · rw [upd_other (by omega), upd_other (by omega), upd_other (by omega)]
theorem p_cannot (h : PS T n E o q v b σ) (L : Nat → Int32) : Tm (fun k => x_cannot k 0 L σ) (fun r => Bb b.1 r.2 ∧ FrM M P w σ r.2) :=
  Tm_mono (s_cannot L σ) (fun r hr => by subst hr; exact flt_b (PS_ok h) (PS_m h) _ _)
theorem p_fault (h : PS T n E o q v b σ) (L : Nat → Int32) : Tm (fun k => x_fault k 0 L σ) (fun r => Bb b.1 r.2 ∧ FrM M P w σ r.2) :=
  Tm_mono (s_fault L σ) (fun r hr => by subst hr; exact flt_b (PS_ok h) (PS_m h) _ _)
theorem p_want (h : PS T n E o q v b σ) {s : Nat} (h1 : 1 ≤ s) (h2 : s ≤ 24) {L : Nat → Int32} (hL : L 1 = nI s) : Tm (fun k => x_want k 0 L σ) (fun r => FrM M P w σ r.2 ∧ ((¬ (tkK T n q = s ∧ ¬ tkK T n (tkN T n q) = 0) ∧ Bb b.1 r.2) ∨ ((tkK T n q = s ∧ ¬ tkK T n (tkN T n q) = 0) ∧ PS T n E o (tkN T n q) v b r.2))) := by
  refine Tm_suc (fun k => by rw [x_want]) ?_
  refine Tm_ite (fun _ => ?_) (fun c => absurd (PS_ok h) c)
  refine Tm_ob (p_sign h h1 h2 (by rw [upd_same]; exact hL)) (fun r hr => ?_)
  obtain ⟨u, τ⟩ := r
  obtain ⟨rfl, hr⟩ := hr
  refine Tm_ite (fun c => ?_) (fun c => ?_)
  · have hk : ¬ tkK T n q = s := fun z => hr.mpr z c
    refine Tm_ob (p_cannot (M := M) (P := P) (w := w) h _) (fun r hr => ?_)
    refine Tm_suc (fun k => by rw [x_want]) ?_
    refine Tm_ite (fun c => absurd c hr.1.1) (fun _ => ?_)
    refine Tm_suc (fun k => by rw [x_want]) ?_
    exact Tm_some ⟨hr.2, Or.inl ⟨fun z => hk z.1, hr.1⟩⟩
  · have hk := hr.mp c
    refine Tm_suc (fun k => by rw [x_want]) ?_
    refine Tm_ite (fun _ => ?_) (fun c => absurd (PS_ok h) c)
    refine Tm_ob (p_take (M := M) (P := P) (w := w) h _) (fun r hr => ?_)
    refine Tm_suc (fun k => by rw [x_want]) ?_
    refine Tm_some ⟨hr.1, ?_⟩
    rcases hr.2 with ⟨a, c⟩ | ⟨a, c⟩
    · exact Or.inl ⟨fun z => z.2 a, c⟩
    · exact Or.inr ⟨⟨hk, a⟩, c⟩
theorem p_wantWord (h : PS T n E o q v b σ) {s : Nat} (h1 : s < 53) {L : Nat → Int32} (hL : L 1 = nI s) : Tm (fun k => x_wantWord k 0 L σ) (fun r => FrM M P w σ r.2 ∧ ((¬ (tkK T n q = 32 + s ∧ ¬ tkK T n (tkN T n q) = 0) ∧ Bb b.1 r.2) ∨ ((tkK T n q = 32 + s ∧ ¬ tkK T n (tkN T n q) = 0) ∧ PS T n E o (tkN T n q) v b r.2))) := by
  refine Tm_suc (fun k => by rw [x_wantWord]) ?_
  refine Tm_ite (fun _ => ?_) (fun c => absurd (PS_ok h) c)
  refine Tm_ob (p_word h h1 (by rw [upd_same]; exact hL)) (fun r hr => ?_)
  obtain ⟨u, τ⟩ := r
  obtain ⟨rfl, hr⟩ := hr
  refine Tm_ite (fun c => ?_) (fun c => ?_)
  · have hk : ¬ tkK T n q = 32 + s := fun z => hr.mpr z c
    refine Tm_ob (p_cannot (M := M) (P := P) (w := w) h _) (fun r hr => ?_)
    refine Tm_suc (fun k => by rw [x_wantWord]) ?_
    refine Tm_ite (fun c => absurd c hr.1.1) (fun _ => ?_)
    refine Tm_suc (fun k => by rw [x_wantWord]) ?_
    exact Tm_some ⟨hr.2, Or.inl ⟨fun z => hk z.1, hr.1⟩⟩
  · have hk := hr.mp c
    refine Tm_suc (fun k => by rw [x_wantWord]) ?_
    refine Tm_ite (fun _ => ?_) (fun c => absurd (PS_ok h) c)
    refine Tm_ob (p_take (M := M) (P := P) (w := w) h _) (fun r hr => ?_)
    refine Tm_suc (fun k => by rw [x_wantWord]) ?_
    refine Tm_some ⟨hr.1, ?_⟩
    rcases hr.2 with ⟨a, c⟩ | ⟨a, c⟩
    · exact Or.inl ⟨fun z => z.2 a, c⟩
    · exact Or.inr ⟨⟨hk, a⟩, c⟩
/-- after a fault nothing is wanted any more -/
theorem b_want (h : ¬ σ.1 10 = 0) (L : Nat → Int32) : Tm (fun k => x_want k 0 L σ) (fun r => r.2 = σ) := by
  refine Tm_suc (fun k => by rw [x_want]) ?_
  refine Tm_ite (fun c => absurd c h) (fun _ => ?_)
  refine Tm_suc (fun k => by rw [x_want]) ?_
  refine Tm_ite (fun c => absurd c h) (fun _ => ?_)
  refine Tm_suc (fun k => by rw [x_want]) ?_
  exact Tm_some rfl
theorem b_wantWord (h : ¬ σ.1 10 = 0) (L : Nat → Int32) : Tm (fun k => x_wantWord k 0 L σ) (fun r => r.2 = σ) := by
  refine Tm_suc (fun k => by rw [x_wantWord]) ?_
  refine Tm_ite (fun c => absurd c h) (fun _ => ?_)
  refine Tm_suc (fun k => by rw [x_wantWord]) ?_
  refine Tm_ite (fun c => absurd c h) (fun _ => ?_)
  refine Tm_suc (fun k => by rw [x_wantWord]) ?_
  exact Tm_some rfl
/-- one more, one fewer is open -/
def mOpn (σ : MS) (x : Int32) : MS := (upd σ.1 13 x, σ.2.1, σ.2.2)
theorem PS_opn (h : PS T n E o q v b σ) {o' : Nat} (ho : o' ≤ 20) : PS T n E o' q v b (mOpn σ (nI o')) := by
  obtain ⟨⟨⟨a1, a2⟩, a3, a4, a5, ⟨c1, c2, c3, c4, c5, c6⟩, a6⟩, ⟨d1, d2⟩, ⟨e1, e2, e3, e4, e5⟩, ⟨f1, f2, f3, f4, f5⟩, ⟨⟨g1, g2, g3⟩, ⟨g4, g5, g6⟩, ⟨g7, g8, g9⟩⟩, ⟨i1, i2, i3⟩⟩ := h
  have r : ∀ j, j ≠ 13 → (mOpn σ (nI o')).1 j = σ.1 j := fun j hj => upd_other hj
  refine ⟨⟨⟨(r 4 (by decide)).trans a1, a2⟩, a3, a4, (r 10 (by decide)).trans a5, ⟨c1, (r 8 (by decide)).trans c2, (r 5 (by decide)).trans c3, (r 9 (by decide)).trans c4, (r 6 (by decide)).trans c5, ?_⟩, a6⟩, ⟨(show upd σ.1 13 (nI o') 13 = nI o' from upd_same), ho⟩, ⟨(r 22 (by decide)).trans e1, e2, (r 24 (by decide)).trans e3, e4, e5⟩, ⟨(r 37 (by decide)).trans f1, f2, f3, f4, f5⟩, ⟨⟨(r 38 (by decide)).trans g1, g2, g3⟩, ⟨(r 52 (by decide)).trans g4, g5, g6⟩, ⟨(r 25 (by decide)).trans g7, g8, g9⟩⟩, ⟨?_, ?_, i3⟩⟩
  · obtain ⟨w, hw⟩ := c6
    exact ⟨w, (r 7 (by decide)).trans hw⟩
  · rw [r 43 (by decide)]; exact i1
  · rw [r 42 (by decide)]; exact i2
theorem FrM_opn (x : Int32) : FrM M P w σ (mOpn σ x) := FrM_sc (fun j hj => upd_other (by omega))
theorem Bb_opn {m : Nat} (h : Bb m σ) (x : Int32) : Bb m (mOpn σ x) := ⟨by show ¬ upd σ.1 13 x 10 = 0; rw [upd_other (by decide)]; exact h.1, by show upd σ.1 13 x 22 = _; rw [upd_other (by decide)]; exact h.2⟩
theorem p_open (h : PS T n E o q v b σ) (L : Nat → Int32) : Tm (fun k => x_open k 0 L σ) (fun r => FrM M P w σ r.2 ∧ ((o = 20 ∧ Bb b.1 r.2) ∨ (o < 20 ∧ PS T n E (o + 1) q v b r.2 ∧ r.2.1 13 = nI (o + 1)))) := by
  have h13 : σ.1 13 = nI o := h.2.1.1
  have ho : o ≤ 20 := h.2.1.2
  refine Tm_suc (fun k => by rw [x_open]) ?_
  rw [h13]
  refine Tm_ite (fun c => ?_) (fun c => ?_)
  · have c : nI o = nI 20 := c
    rw [n_eq (by omega) (by omega)] at c
    refine Tm_ob (p_fault (M := M) (P := P) (w := w) h _) (fun r hr => ?_)
    refine Tm_suc (fun k => by rw [x_open]) ?_
    exact Tm_some ⟨FrM_tr hr.2 (FrM_opn _), Or.inl ⟨c, Bb_opn hr.1 _⟩⟩
  · have c : ¬ nI o = nI 20 := c
    rw [n_eq (by omega) (by omega)] at c
    refine Tm_suc (fun k => by rw [x_open]) ?_
    refine Tm_some ⟨FrM_opn _, Or.inr ⟨by omega, ?_, ?_⟩⟩
    · have := PS_opn h (o' := o + 1) (by omega)
      show PS T n E (o + 1) q v b (mOpn σ (σ.1 13 + 1))
      rw [h13, n_add1]; exact this
    · show upd σ.1 13 (σ.1 13 + 1) 13 = _
      rw [upd_same, h13, n_add1]
theorem PS_clo (h : PS T n E (o + 1) q v b σ) : PS T n E o q v b (mOpn σ (σ.1 13 - 1)) := by
  have h13 : σ.1 13 = nI (o + 1) := h.2.1.1
  have ho : o + 1 ≤ 20 := h.2.1.2
  rw [h13, show (nI (o + 1) - 1 : Int32) = nI (o + 1) - nI 1 from rfl, n_sub (by omega) (by omega)]
  exact PS_opn h (by omega)
end PSR
