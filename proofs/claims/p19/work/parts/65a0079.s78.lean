section JnS78
/-! Declarations: how they go on; a local variable is told. -/
def pb {α β : Type} (x : Option (Fl α)) (k : α → Option (Fl β)) : Option (Fl β) := match x with
  | none => none
  | some (Sum.inl y) => some (Sum.inl y)
  | some (Sum.inr r) => k r
def pT {β : Type} (T : Nat → Int32) (n q : Nat) (k : Nat → Option (Fl β)) : Option (Fl β) := if tkK T n (tkN T n q) = 0 then some (Sum.inl (1, tkN T n q)) else k (tkN T n q)
def pW {β : Type} (T : Nat → Int32) (n t q : Nat) (k : Nat → Option (Fl β)) : Option (Fl β) := if tkK T n q = t then pT T n q k else some (Sum.inl (2, q))
theorem pb_any {α β : Type} {x : Option (Fl α)} {k : α → Option (Fl β)} {y : Fl β} (h : pb x k = some y) : (∃ e, x = some (Sum.inl e) ∧ y = Sum.inl e) ∨ ∃ s, x = some (Sum.inr s) ∧ k s = some y := by
  cases x with
  | none => exact absurd h (by intro h; cases h)
  | some z => cases z with
    | inl e => exact Or.inl ⟨e, rfl, (Option.some.inj h).symm⟩
    | inr s => exact Or.inr ⟨s, rfl, h⟩
theorem pT_any {β : Type} {T : Nat → Int32} {n q : Nat} {k : Nat → Option (Fl β)} {y : Fl β} (h : pT T n q k = some y) : (tkK T n (tkN T n q) = 0 ∧ y = Sum.inl (1, tkN T n q)) ∨ (¬ tkK T n (tkN T n q) = 0 ∧ k (tkN T n q) = some y) := by
  unfold pT at h
  by_cases c : tkK T n (tkN T n q) = 0
  · rw [if_pos c] at h; exact Or.inl ⟨c, (Option.some.inj h).symm⟩
  · rw [if_neg c] at h; exact Or.inr ⟨c, h⟩
theorem pW_any {β : Type} {T : Nat → Int32} {n t q : Nat} {k : Nat → Option (Fl β)} {y : Fl β} (h : pW T n t q k = some y) : (¬ (tkK T n q = t ∧ ¬ tkK T n (tkN T n q) = 0) ∧ y = Sum.inl (wF T n t q)) ∨ ((tkK T n q = t ∧ ¬ tkK T n (tkN T n q) = 0) ∧ k (tkN T n q) = some y) := by
  unfold pW at h
  by_cases c : tkK T n q = t
  · rw [if_pos c] at h
    rcases pT_any h with ⟨a, b⟩ | ⟨a, b⟩
    · exact Or.inl ⟨fun z => z.2 a, by rw [wF_y c]; exact b⟩
    · exact Or.inr ⟨⟨c, a⟩, b⟩
  · rw [if_neg c] at h; exact Or.inl ⟨fun z => c z.1, by rw [wF_n c]; exact (Option.some.inj h).symm⟩
theorem pb_t {α β : Type} {x : Option (Fl α)} {k : α → Option (Fl β)} (hx : ∃ y, x = some y) (hk : ∀ s, x = some (Sum.inr s) → ∃ y, k s = some y) : ∃ y, pb x k = some y := by
  obtain ⟨y, hy⟩ := hx
  cases y with
  | inl yf => exact ⟨Sum.inl yf, by rw [hy]; rfl⟩
  | inr s => obtain ⟨z, hz⟩ := hk s hy; exact ⟨z, by rw [hy]; exact hz⟩
theorem pT_t {β : Type} {T : Nat → Int32} {n q : Nat} {k : Nat → Option (Fl β)} (hk : ∃ y, k (tkN T n q) = some y) : ∃ y, pT T n q k = some y := by
  unfold pT
  by_cases c : tkK T n (tkN T n q) = 0
  · rw [if_pos c]; exact ⟨_, rfl⟩
  · rw [if_neg c]; exact hk
theorem pW_t {β : Type} {T : Nat → Int32} {n t q : Nat} {k : Nat → Option (Fl β)} (hk : tkK T n q = t → ∃ y, k (tkN T n q) = some y) : ∃ y, pW T n t q k = some y := by
  unfold pW
  by_cases c : tkK T n q = t
  · rw [if_pos c]; exact pT_t (hk c)
  · rw [if_neg c]; exact ⟨_, rfl⟩
/-- next token, what is around, variables, what is laid -/
abbrev DV := Nat × En × Nat × BT
abbrev tlC (T : Nat → Int32) (n : Nat) (E : En) (q v : Nat) : Prop := tkK T n q = 26 ∧ (E.2.1.find? (fun x => decide (x.1 = tkS T n q))).isSome = false ∧ ¬ v = 60
/-- the fault where a local variable is told -/
def tvF (T : Nat → Int32) (n : Nat) (E : En) (q v : Nat) : Nat × Nat := if tkK T n q = 26 then (if (E.2.1.find? (fun x => decide (x.1 = tkS T n q))).isSome = true then (4, q) else if v = 60 then (8, q) else (1, tkN T n q)) else (2, q)
theorem tvF_2 {T : Nat → Int32} {n : Nat} {E : En} {q v : Nat} (h : ¬ tkK T n q = 26) : tvF T n E q v = (2, q) := if_neg h
theorem tvF_4 {T : Nat → Int32} {n : Nat} {E : En} {q v : Nat} (h : tkK T n q = 26) (h2 : (E.2.1.find? (fun x => decide (x.1 = tkS T n q))).isSome = true) : tvF T n E q v = (4, q) := by unfold tvF; rw [if_pos h, if_pos h2]
theorem tvF_8 {T : Nat → Int32} {n : Nat} {E : En} {q v : Nat} (h : tkK T n q = 26) (h2 : (E.2.1.find? (fun x => decide (x.1 = tkS T n q))).isSome = false) (h3 : v = 60) : tvF T n E q v = (8, q) := by unfold tvF; rw [if_pos h, if_neg (by rw [h2]; decide), if_pos h3]
theorem tvF_1 {T : Nat → Int32} {n : Nat} {E : En} {q v : Nat} (h : tkK T n q = 26) (h2 : (E.2.1.find? (fun x => decide (x.1 = tkS T n q))).isSome = false) (h3 : ¬ v = 60) : tvF T n E q v = (1, tkN T n q) := by unfold tvF; rw [if_pos h, if_neg (by rw [h2]; decide), if_neg h3]
abbrev bTl (T : Nat → Int32) (n : Nat) (E : En) (q v : Nat) (b : BT) : BT := bKeep (bSlot b (60 * E.2.2.2.1 + v) 1) T q (tkE T n q - q)
abbrev eTl (T : Nat → Int32) (n : Nat) (E : En) (q v : Nat) (b : BT) : En := seeN E [(tkS T n q, b.2.1, v)]
def gTl {β : Type} (T : Nat → Int32) (n : Nat) (E : En) (q v : Nat) (b : BT) (k : DV → Option (Fl β)) : Option (Fl β) :=
  if tlC T n E q v then pT T n q (fun q1 => k (q1, eTl T n E q v b, v + 1, bTl T n E q v b)) else some (Sum.inl (tvF T n E q v))
theorem gTl_any {β : Type} {T : Nat → Int32} {n : Nat} {E : En} {q v : Nat} {b : BT} {k : DV → Option (Fl β)} {y : Fl β} (h : gTl T n E q v b k = some y) : (¬ (tlC T n E q v ∧ ¬ tkK T n (tkN T n q) = 0) ∧ y = Sum.inl (tvF T n E q v)) ∨ ((tlC T n E q v ∧ ¬ tkK T n (tkN T n q) = 0) ∧ k (tkN T n q, eTl T n E q v b, v + 1, bTl T n E q v b) = some y) := by
  unfold gTl at h
  by_cases c : tlC T n E q v
  · rw [if_pos c] at h
    rcases pT_any h with ⟨a, b⟩ | ⟨a, b⟩
    · exact Or.inl ⟨fun z => z.2 a, by rw [tvF_1 c.1 c.2.1 c.2.2]; exact b⟩
    · exact Or.inr ⟨⟨c, a⟩, b⟩
  · rw [if_neg c] at h; exact Or.inl ⟨fun z => c z.1, (Option.some.inj h).symm⟩
/-- what telling variables of the unit w leaves as it is -/
def FrV (w : Nat) (σ σ' : MS) : Prop :=
  (∀ j, ¬ ((5 ≤ j ∧ j ≤ 13) ∨ j = 24 ∨ j = 25 ∨ j = 38 ∨ (46 ≤ j ∧ j ≤ 48)) → σ'.1 j = σ.1 j) ∧ σ'.2.1 = σ.2.1 ∧
  (∀ j, ¬ ((12 ≤ j ∧ j ≤ 16) ∨ (20 ≤ j ∧ j ≤ 24)) → σ'.2.2 j = σ.2.2 j) ∧
  (∀ i, i ≠ w → σ'.2.2 21 i = σ.2.2 21 i) ∧ (∀ i, i < 60 * w ∨ 60 * w + 60 ≤ i → σ'.2.2 20 i = σ.2.2 20 i)
theorem FrV_rf {w : Nat} {σ : MS} : FrV w σ σ := ⟨fun _ _ => rfl, rfl, fun _ _ => rfl, fun _ _ => rfl, fun _ _ => rfl⟩
theorem FrV_tr {w : Nat} {σ τ υ : MS} (h : FrV w σ τ) (g : FrV w τ υ) : FrV w σ υ := ⟨fun j hj => (g.1 j hj).trans (h.1 j hj), g.2.1.trans h.2.1, fun j hj => (g.2.2.1 j hj).trans (h.2.2.1 j hj), fun j hj => (g.2.2.2.1 j hj).trans (h.2.2.2.1 j hj), fun j hj => (g.2.2.2.2 j hj).trans (h.2.2.2.2 j hj)⟩
theorem FrV_sc {w : Nat} {σ : MS} {u : Nat → Int32} (h : ∀ j, ¬ ((5 ≤ j ∧ j ≤ 13) ∨ j = 24 ∨ j = 25 ∨ j = 38 ∨ (46 ≤ j ∧ j ≤ 48)) → u j = σ.1 j) : FrV w σ (u, σ.2.1, σ.2.2) := ⟨h, rfl, fun _ _ => rfl, fun _ _ => rfl, fun _ _ => rfl⟩
/-- the same rows -/
theorem FrV_s2 {w : Nat} {σ τ : MS} (h : ∀ j, ¬ ((5 ≤ j ∧ j ≤ 13) ∨ j = 24 ∨ j = 25 ∨ j = 38 ∨ (46 ≤ j ∧ j ≤ 48)) → τ.1 j = σ.1 j) (h2 : τ.2 = σ.2) : FrV w σ τ := ⟨h, by rw [h2], fun _ _ => by rw [h2], fun _ _ => by rw [h2], fun _ _ => by rw [h2]⟩
theorem FrV_flt {w : Nat} {σ : MS} (x y : Int32) : FrV w σ (mFlt σ x y) := by
  unfold mFlt
  by_cases h : σ.1 10 = 0
  · rw [if_pos h]; exact FrV_sc (fun j hj => by rw [upd_other (by omega), upd_other (by omega), upd_other (by omega)])
  · rw [if_neg h]; exact FrV_rf
theorem FrV_slot {σ : MS} {w v : Nat} (hv : v < 60) (x : Int32) : FrV w σ (mSlot σ w v x) := ⟨fun _ _ => rfl, rfl, fun j hj => mSlot_o (by omega) (by omega), fun i hi => by rw [mSlot_21, upd_other hi], fun i hi => by rw [mSlot_20, upd_other (by omega)]⟩
theorem FrV_see {w : Nat} {σ : MS} {r : Nat} {x y z : Int32} : FrV w σ (mSeeP σ r x y z) := ⟨fun j hj => mSeeP_s (by omega), rfl, fun j hj => mSeeP_o (by omega), fun i _ => by rw [mSeeP_o (by decide)], fun i _ => by rw [mSeeP_o (by decide)]⟩
theorem FrV_pool {w : Nat} {σ : MS} {f : Nat} : ∀ m : Nat, FrV w σ (mPool σ f m)
  | 0 => FrV_rf
  | m + 1 => by
    have r : ∀ j, j ≠ 12 → (mPool σ f (m + 1)).2.2 j = (mPool σ f m).2.2 j := fun j hj => by
      show updG (mPool σ f m).2.2 12 _ j = _
      rw [updG_other hj]
    exact FrV_tr (FrV_pool m) ⟨fun j hj => upd_other (by omega), rfl, fun j hj => r j (by omega), fun i _ => by rw [r 21 (by decide)], fun i _ => by rw [r 20 (by decide)]⟩
theorem Tm_and {α : Type} {g : Nat → Option α} {P Q : α → Prop} (h : Tm g P) (k : Tm g Q) : Tm g (fun r => P r ∧ Q r) := by
  obtain ⟨r, k0, h1, h2⟩ := h
  obtain ⟨r', k1, h3, h4⟩ := k
  have e : r = r' := Option.some.inj ((h1 (max k0 k1) (by omega)).symm.trans (h3 (max k0 k1) (by omega)))
  subst e
  exact ⟨r, k0, h1, h2, h4⟩
/-- the next token, in this frame too -/
theorem v_take {w : Nat} {T : Nat → Int32} {n : Nat} {E : En} {o q v : Nat} {b : BT} {σ : MS} (h : PS T n E o q v b σ) (L : Nat → Int32) : Tm (fun k => x_take k 0 L σ) (fun r => FrV w σ r.2 ∧ ((tkK T n (tkN T n q) = 0 ∧ Bb (1, tkN T n q) b.1 r.2) ∨ (¬ tkK T n (tkN T n q) = 0 ∧ PS T n E o (tkN T n q) v b r.2))) := by
  have hc := PS_cur h
  have hE := tkE_b T n q hc.1
  refine Tm_mono (Tm_and (p_take (M := 0) (P := 0) (w := 0) h L) (s_take h.1.1 h.1.2.2.1 hc.2.2.1 hE.2.1 L)) (fun r hr => ?_)
  obtain ⟨h2, t1, t2, t3, t4, t5, t6, t7, t8⟩ := hr
  exact ⟨FrV_s2 (fun j hj => t7 j (by omega)) t1, h2.2⟩
end JnS78
section JnS79
/-! A local variable is told (reference). -/
section TLO
variable {T : Nat → Int32} {n : Nat} {E : En} {o q v : Nat} {b : BT} {σ : MS}
theorem v_wantName {w : Nat} (h : PS T n E o q v b σ) (L : Nat → Int32) : Tm (fun k => x_wantName k 0 L σ) (fun r => (¬ tkK T n q = 26 ∧ Bb (2, q) b.1 r.2 ∧ FrV w σ r.2) ∨ (tkK T n q = 26 ∧ r.2 = σ)) := by
  have c := cur_kind (PS_cur h)
  refine Tm_suc (fun k => by rw [x_wantName]) ?_
  refine Tm_ite (fun _ => ?_) (fun c => absurd (PS_ok h) c)
  refine Tm_ite (fun d => ?_) (fun d => ?_)
  · refine Tm_suc (fun k => by rw [x_wantName]) ?_
    exact Tm_some (Or.inr ⟨c.2.1.mp d, rfl⟩)
  · refine Tm_ob (s_cannot _ σ) (fun r hr => ?_)
    refine Tm_suc (fun k => by rw [x_wantName]) ?_
    refine Tm_some (Or.inl ⟨fun z => d (c.2.1.mpr z), ?_⟩)
    subst hr
    exact ⟨(flt_b (M := 0) (P := 0) (w := 0) (PS_ok h) (PS_m h) (by rfl) (by exact PS_8 h)).1, FrV_flt _ _⟩
theorem fl_s {σ ρ : MS} (h2 : ρ.2 = σ.2) (hs : ∀ j, ¬ (10 ≤ j ∧ j ≤ 12) → ρ.1 j = σ.1 j) (x y : Int32) : (mFlt ρ x y).2 = σ.2 ∧ (∀ j, ¬ (10 ≤ j ∧ j ≤ 12) → (mFlt ρ x y).1 j = σ.1 j) ∧ ¬ (mFlt ρ x y).1 10 = 0 := by
  unfold mFlt
  by_cases h : ρ.1 10 = 0
  · rw [if_pos h]
    refine ⟨h2, fun j hj => ?_, ?_⟩
    · show upd (upd (upd ρ.1 10 1) 11 x) 12 y j = σ.1 j
      rw [upd_other (by omega), upd_other (by omega), upd_other (by omega)]; exact hs j hj
    · show ¬ upd (upd (upd ρ.1 10 1) 11 x) 12 y 10 = 0
      rw [upd_other (by decide), upd_other (by decide), upd_same]; decide
  · rw [if_neg h]; exact ⟨h2, hs, h⟩
theorem v_newSlot {w : Nat} (h : PS T n E o q v b σ) {L : Nat → Int32} (hL : L 1 = nI 1) : Tm (fun k => x_newSlot k 0 L σ) (fun r => (v = 60 ∧ Bb (8, q) b.1 r.2 ∧ FrV w σ r.2) ∨ (v < 60 ∧ r = (nI v, mSlot σ E.2.2.2.1 v (nI 1)) ∧ PS T n E o q (v + 1) (bSlot b (60 * E.2.2.2.1 + v) (nI 1)) r.2)) := by
  have h0 := h
  obtain ⟨f1, f2, f3, f4, f5⟩ := h.2.2.2.1
  by_cases hv : v = 60
  · have hi : ¬ (nI E.2.2.2.1 < 0 ∨ 43 ≤ (nI E.2.2.2.1).toNatClampNeg) := n_in (by omega) (by omega)
    have hc : (nI E.2.2.2.1).toNatClampNeg = E.2.2.2.1 := n_cl (by omega)
    refine Tm_suc (fun k => by rw [x_newSlot]) ?_
    rw [f1]
    refine Tm_chk hi ?_
    rw [hc, f3]
    refine Tm_ite (fun c => ?_) (fun c => absurd (by rw [hv]; rfl) c)
    refine Tm_ob (s_fault _ σ) (fun r hr => ?_)
    rw [if_pos (PS_ok h0)] at hr
    subst hr
    have ff : ∀ x y : Int32, ((upd (upd (upd σ.1 10 1) 11 x) 12 y, σ.2) : MS) = mFlt σ x y := fun x y => (if_pos (PS_ok h0)).symm
    refine Tm_some (Or.inl ⟨hv, ?_⟩)
    rw [ff]
    exact ⟨(flt_b (M := 0) (P := 0) (w := 0) (PS_ok h0) (PS_m h0) (by rfl) (by exact PS_8 h0)).1, FrV_flt _ _⟩
  · refine Tm_mono (p_newSlot (M := 0) (P := 0) h0 (g := 1) (by omega) hL) (fun r hr => ?_)
    rcases hr.2 with ⟨z, _⟩ | z
    · exact absurd z hv
    · exact Or.inr z
abbrev PoL (T : Nat → Int32) (n : Nat) (E : En) (o q v : Nat) (b : BT) (σ : MS) (r : Int32 × MS) : Prop := FrV E.2.2.2.1 σ r.2 ∧ ((¬ (tlC T n E q v ∧ ¬ tkK T n (tkN T n q) = 0) ∧ Bb (tvF T n E q v) b.1 r.2) ∨ ((tlC T n E q v ∧ ¬ tkK T n (tkN T n q) = 0) ∧ PS T n (eTl T n E q v b) o (tkN T n q) (v + 1) (bTl T n E q v b) r.2))
theorem p_tellLocal (h : PS T n E o q v b σ) (hp : b.2.1 + (n - q) ≤ 70000) {L : Nat → Int32} (hL : L 1 = 1) : Tm (fun k => x_tellLocal k 0 L σ) (PoL T n E o q v b σ) := by
  have h0 := h
  obtain ⟨⟨⟨a1, a2⟩, a3, a4, a5, ⟨c1, c2, c3, c4, c5, c6⟩, a6⟩, ⟨d1, d2⟩, ⟨e1, e2, e3, e4, e5⟩, ⟨f1, f2, f3, f4, f5⟩, ⟨⟨g1, g2, g3⟩, ⟨g4, g5, g6⟩, ⟨g7, g8, g9⟩⟩, ⟨i1, i2, i3⟩⟩ := h
  have hE := tkE_b T n q c1
  have hrow := rows_mRow (by omega) E.2.1 g3
  have hdup := dup_iff (c := 0) (f := q) (e := tkE T n q) a3 (by omega) e5 E.2.1 g3
  rw [Nat.sub_zero, List.take_length] at hdup
  -- a fault: the rest is gone through
  have bl : ∀ (m k : Nat) (N : Nat → Int32) (ρ : MS), m + k = E.2.1.length → N 2 = nI k → ρ.2 = σ.2 → (∀ j, ¬ (10 ≤ j ∧ j ≤ 12) → ρ.1 j = σ.1 j) → ¬ ρ.1 10 = 0 → Tm (fun f => x_tellLocal f 2 N ρ) (fun r => r.2 = ρ) := by
    intro m
    induction m with
    | zero =>
      intro k N ρ hk hN h2 hs hb
      refine Tm_suc (fun k => by rw [x_tellLocal]) ?_
      rw [hs 38 (by decide), g1, hN]
      refine Tm_ite (fun _ => ?_) (fun z => absurd ((n_le (by omega) (by omega)).mpr (by omega)) z)
      refine Tm_suc (fun k => by rw [x_tellLocal]) ?_
      refine Tm_ite (fun z => absurd z hb) (fun _ => ?_)
      refine Tm_suc (fun k => by rw [x_tellLocal]) ?_
      refine Tm_ite (fun z => absurd z hb) (fun _ => ?_)
      refine Tm_suc (fun k => by rw [x_tellLocal]) ?_
      exact Tm_some rfl
    | succ m ih =>
      intro k N ρ hk hN h2 hs hb
      obtain ⟨pp, ll, r1, r2, r3⟩ := hrow k (by omega)
      have h22 : ρ.2.2 = σ.2.2 := by rw [h2]
      refine Tm_suc (fun k => by rw [x_tellLocal]) ?_
      rw [hs 38 (by decide), g1, hN]
      refine Tm_ite (fun z => absurd ((n_le (by omega) (by omega)).mp z) (by omega)) (fun _ => ?_)
      refine Tm_chk (n_in (by omega) (by omega)) ?_
      refine Tm_chk (n_in (by omega) (by omega)) ?_
      rw [n_cl (p := k) (by omega), h22, r1, r2]
      refine Tm_ob (s_isNamed (σ := ρ) (f := q) (e := tkE T n q) (p := pp) (l := ll) ((hs 8 (by decide)).trans c2) ((hs 9 (by decide)).trans c4) hE.1 (by omega) r3 _ rfl rfl) (fun r4 hr4 => ?_)
      obtain ⟨u, τ⟩ := r4
      have hr41 : τ = ρ := hr4.1
      subst hr41
      have next : Tm (fun f => x_tellLocal f 3 N τ) (fun r => r.2 = τ) := by
        refine Tm_suc (fun k => by rw [x_tellLocal]) ?_
        exact ih (k + 1) _ τ (by omega) (by rw [upd_same, hN, n_add1]) h2 hs hb
      refine Tm_ite (fun _ => next) (fun _ => ?_)
      refine Tm_ob (s_fault _ τ) (fun r6 hr6 => ?_)
      rw [if_neg hb] at hr6
      subst hr6
      exact next
  have fin : ∀ N : Nat → Int32, N 1 = 1 → (∀ j, j < E.2.1.length → ¬ mIs σ q (tkE T n q - q) 22 23 j) → tkK T n q = 26 → Tm (fun f => x_tellLocal f 4 N σ) (PoL T n E o q v b σ) := by
    intro N hN1 hno hK
    have hsome : (E.2.1.find? (fun x => decide (x.1 = tkS T n q))).isSome = false := by
      apply eq_false_of_ne_true
      intro z
      obtain ⟨k, k1, k2, k3⟩ := hdup.mp z
      exact hno k k2 k3
    refine Tm_suc (fun k => by rw [x_tellLocal]) ?_
    refine Tm_ite (fun _ => ?_) (fun z => absurd a5 z)
    refine Tm_suc (fun k => by rw [x_tellLocal]) ?_
    refine Tm_ob (v_newSlot (w := E.2.2.2.1) h0 (by rw [upd_same]; exact hN1)) (fun r1 hr1 => ?_)
    rcases hr1 with ⟨hv, hB, hV⟩ | ⟨hv, hr, hS1⟩
    · refine Tm_suc (fun k => by rw [x_tellLocal]) ?_
      refine Tm_ite (fun z => absurd z hB.1) (fun _ => ?_)
      refine Tm_suc (fun k => by rw [x_tellLocal]) ?_
      exact Tm_some ⟨hV, Or.inl ⟨fun z => z.1.2.2 hv, by rw [tvF_8 hK hsome hv]; exact hB⟩⟩
    · subst hr
      have hS1 : PS T n E o q (v + 1) (bSlot b (60 * E.2.2.2.1 + v) 1) (mSlot σ E.2.2.2.1 v (nI 1)) := hS1
      refine Tm_suc (fun k => by rw [x_tellLocal]) ?_
      refine Tm_ite (fun _ => ?_) (fun z => absurd (PS_ok hS1) z)
      refine Tm_ob (p_keep (M := 0) (P := 0) (w := E.2.2.2.1) hS1 (Nat.zero_le _) (f := q) (e := tkE T n q) hE.1 (by omega) (by rw [bSlot_p]; omega) (by rw [upd_other (by decide), upd_same]; exact c2) (by rw [upd_same]; exact c4)) (fun r2 hr2 => ?_)
      obtain ⟨hr2, hS2, hF2⟩ := hr2
      have k38 : r2.2.1 38 = nI E.2.1.length := hS2.2.2.2.2.1.1.1
      have k8 : r2.2.1 8 = nI q := hS2.1.2.2.2.2.1.2.1
      have k9 : r2.2.1 9 = nI (tkE T n q) := hS2.1.2.2.2.2.1.2.2.2.1
      have k1 : r2.1 = nI b.2.1 := by rw [hr2]; rfl
      have hV2 : FrV E.2.2.2.1 σ r2.2 := by rw [hr2]; exact FrV_tr (FrV_slot hv _) (FrV_pool _)
      rw [k8, k9, k1, n_sub (by omega) hE.1]
      refine Tm_ob (s_see (r := E.2.1.length) k38 (by omega) _) (fun r3 hr3 => ?_)
      subst hr3
      have hsl : (tkS T n q).length = tkE T n q - q := seg_len _ _ _
      have hS3 := PS_see hS2 (tkS T n q, b.2.1, v) (by omega) (by show b.2.1 + (tkS T n q).length ≤ b.2.1 + (tkE T n q - q); rw [hsl]; exact Nat.le_refl _) hv (fun i hi => by
        have hi : i < (tkS T n q).length := hi
        rw [hsl] at hi
        show (if b.2.1 ≤ b.2.1 + i ∧ b.2.1 + i < b.2.1 + (tkE T n q - q) then T (q + (b.2.1 + i - b.2.1)) else _) = (tkS T n q).getD i 0
        rw [if_pos (by omega), show b.2.1 + i - b.2.1 = i by omega]
        exact (seg_at hi).symm)
      rw [hsl] at hS3
      have hst : mSeeP r2.2 E.2.1.length ((upd (upd (upd (fun _ => (0 : Int32)) 1 (nI b.2.1)) 2 (nI (tkE T n q - q))) 3 (upd N 100 (nI v) 100)) 1) ((upd (upd (upd (fun _ => (0 : Int32)) 1 (nI b.2.1)) 2 (nI (tkE T n q - q))) 3 (upd N 100 (nI v) 100)) 2) ((upd (upd (upd (fun _ => (0 : Int32)) 1 (nI b.2.1)) 2 (nI (tkE T n q - q))) 3 (upd N 100 (nI v) 100)) 3) = mSeeP r2.2 E.2.1.length (nI b.2.1) (nI (tkE T n q - q)) (nI v) := rfl
      rw [hst]
      refine Tm_ob (v_take (w := E.2.2.2.1) hS3 _) (fun r9 hr9 => ?_)
      refine Tm_suc (fun k => by rw [x_tellLocal]) ?_
      refine Tm_some ⟨FrV_tr hV2 (FrV_tr FrV_see hr9.1), ?_⟩
      rcases hr9.2 with ⟨z, hB⟩ | ⟨z, hS9⟩
      · exact Or.inl ⟨fun y => y.2 z, by rw [bKeep_1, bSlot_1] at hB; rw [tvF_1 hK hsome (by omega)]; exact hB⟩
      · exact Or.inr ⟨⟨⟨hK, hsome, by omega⟩, z⟩, hS9⟩
  have gl : tkK T n q = 26 → ∀ (m k : Nat) (N : Nat → Int32), m + k = E.2.1.length → N 2 = nI k → N 1 = 1 → (∀ j, j < k → ¬ mIs σ q (tkE T n q - q) 22 23 j) → Tm (fun f => x_tellLocal f 2 N σ) (PoL T n E o q v b σ) := by
    intro hK m
    induction m with
    | zero =>
      intro k N hk hN hN1 hno
      refine Tm_suc (fun k => by rw [x_tellLocal]) ?_
      rw [g1, hN]
      exact Tm_ite (fun _ => fin N hN1 (fun j h2 => hno j (by omega)) hK) (fun z => absurd ((n_le (by omega) (by omega)).mpr (by omega)) z)
    | succ m ih =>
      intro k N hk hN hN1 hno
      obtain ⟨pp, ll, r1, r2, r3⟩ := hrow k (by omega)
      refine Tm_suc (fun k => by rw [x_tellLocal]) ?_
      rw [g1, hN]
      refine Tm_ite (fun z => absurd ((n_le (by omega) (by omega)).mp z) (by omega)) (fun _ => ?_)
      refine Tm_chk (n_in (by omega) (by omega)) ?_
      refine Tm_chk (n_in (by omega) (by omega)) ?_
      rw [n_cl (p := k) (by omega), r1, r2]
      refine Tm_ob (s_isNamed (f := q) (e := tkE T n q) (p := pp) (l := ll) c2 c4 hE.1 (by omega) r3 _ rfl rfl) (fun r4 hr4 => ?_)
      obtain ⟨u, τ⟩ := r4
      have hr41 : τ = σ := hr4.1
      subst hr41
      have hiff := mIs_iff (f := q) (m := tkE T n q - q) (show mRow τ 22 23 k pp ll from ⟨r1, r2, r3⟩)
      refine Tm_ite (fun z => ?_) (fun z => ?_)
      · refine Tm_suc (fun k => by rw [x_tellLocal]) ?_
        refine ih (k + 1) _ (by omega) (by rw [upd_same, hN, n_add1]) (by rw [upd_other (by decide)]; exact hN1) (fun j h2 => ?_)
        by_cases hj : j = k
        · subst hj; exact fun y => hr4.2.mpr (hiff.mp y) z
        · exact hno j (by omega)
      · have hin : mIs τ q (tkE T n q - q) 22 23 k := hiff.mpr (hr4.2.mp z)
        have hD : (E.2.1.find? (fun x => decide (x.1 = tkS T n q))).isSome = true := hdup.mpr ⟨k, Nat.zero_le _, by omega, hin⟩
        refine Tm_ob (s_fault _ τ) (fun r6 hr6 => ?_)
        have hr6 : r6 = (0, mFlt τ 4 (τ.1 8)) := hr6
        subst hr6
        obtain ⟨k1, k2, k3⟩ := fl_s (σ := τ) (ρ := τ) rfl (fun _ _ => rfl) 4 (τ.1 8)
        refine Tm_suc (fun k => by rw [x_tellLocal]) ?_
        refine Tm_mono (bl m (k + 1) _ _ (by omega) (by rw [upd_same, hN, n_add1]) k1 k2 k3) (fun r hr => ?_)
        refine ⟨?_, Or.inl ⟨fun y => absurd (y.1.2.1.symm.trans hD) (by decide), ?_⟩⟩
        · rw [hr]; exact FrV_flt _ _
        · rw [hr, tvF_4 hK hD]; exact (flt_b (M := 0) (P := 0) (w := 0) a5 e1 (by rfl) (by exact c2)).1
  refine Tm_suc (fun k => by rw [x_tellLocal]) ?_
  refine Tm_ob (v_wantName (w := E.2.2.2.1) h0 _) (fun r hr => ?_)
  rcases hr with ⟨x1, x2, x3⟩ | ⟨x1, x2⟩
  · refine Tm_ite (fun z => absurd z x2.1) (fun _ => ?_)
    exact Tm_some ⟨x3, Or.inl ⟨fun y => x1 y.1.1, by rw [tvF_2 x1]; exact x2⟩⟩
  · rw [x2]
    refine Tm_ite (fun _ => ?_) (fun z => absurd a5 z)
    refine Tm_suc (fun k => by rw [x_tellLocal]) ?_
    exact gl x1 _ 0 _ rfl upd_same (by rw [upd_other (by decide)]; exact hL) (fun j hj => absurd hj (Nat.not_lt_zero _))
end TLO
end JnS79
section JnS80
/-! A name of the program is told (reference). -/
/-- a name more among those of the program -/
def glA (E : En) (x : Gn) : En := (E.1 ++ [x], E.2)
def mEnt (σ : MS) (g : Nat) (k p l m : Int32) : MS := (upd σ.1 25 (nI (g + 1)), σ.2.1, updG (updG (updG (updG σ.2.2 13 (upd (σ.2.2 13) g k)) 14 (upd (σ.2.2 14) g p)) 15 (upd (σ.2.2 15) g l)) 16 (upd (σ.2.2 16) g m))
section TEN
variable {T : Nat → Int32} {n : Nat} {E : En} {o q v : Nat} {b : BT} {σ : MS}
theorem mEnt_o {g : Nat} {k p l m : Int32} {j : Nat} (h : j < 13 ∨ 16 < j) : (mEnt σ g k p l m).2.2 j = σ.2.2 j := by
  show updG (updG (updG (updG σ.2.2 13 _) 14 _) 15 _) 16 _ j = _
  rw [updG_other (by omega), updG_other (by omega), updG_other (by omega), updG_other (by omega)]
theorem mEnt_s {g : Nat} {k p l m : Int32} {j : Nat} (h : j ≠ 25) : (mEnt σ g k p l m).1 j = σ.1 j := upd_other h
theorem mEnt_13 {g : Nat} {k p l m : Int32} : (mEnt σ g k p l m).2.2 13 = upd (σ.2.2 13) g k := rfl
theorem mEnt_14 {g : Nat} {k p l m : Int32} : (mEnt σ g k p l m).2.2 14 = upd (σ.2.2 14) g p := rfl
theorem mEnt_15 {g : Nat} {k p l m : Int32} : (mEnt σ g k p l m).2.2 15 = upd (σ.2.2 15) g l := rfl
theorem mEnt_16 {g : Nat} {k p l m : Int32} : (mEnt σ g k p l m).2.2 16 = upd (σ.2.2 16) g m := rfl
theorem FrV_ent {w g : Nat} {k p l m : Int32} : FrV w σ (mEnt σ g k p l m) := ⟨fun j hj => mEnt_s (by omega), rfl, fun j hj => mEnt_o (by omega), fun i _ => by rw [mEnt_o (by decide)], fun i _ => by rw [mEnt_o (by decide)]⟩
theorem PS_ent (h : PS T n E o q v b σ) (x : Gn) (hl : E.1.length < 200) (hp : x.2.1 + x.1.length ≤ b.2.1) (hk : 1 ≤ x.2.2.1 ∧ x.2.2.1 ≤ 3) (hs : x.2.2.2 < 60) (hc : ∀ i, i < x.1.length → b.2.2.2.1 (x.2.1 + i) = x.1.getD i 0) (hf : ¬ x.2.2.1 = 1 → x.2.2.2 < 41 ∧ σ.2.2 18 x.2.2.2 = nI (E.2.2.2.2.2.2 x.2.2.2) ∧ E.2.2.2.2.2.2 x.2.2.2 ≤ 8) : PS T n (glA E x) o q v b (mEnt σ E.1.length (nI x.2.2.1) (nI x.2.1) (nI x.1.length) (nI x.2.2.2)) := by
  obtain ⟨h1, h2, h3, h4, ⟨⟨g1, g2, g3⟩, ⟨g4, g5, g6⟩, ⟨g7, g8, g9⟩⟩, h6⟩ := h
  refine ⟨PT_c (fun j _ _ => mEnt_s (by omega)) (mEnt_o (by decide)) (mEnt_o (by decide)) h1, ⟨(mEnt_s (by decide)).trans h2.1, h2.2⟩, PB_c (mEnt_s (by decide)) (mEnt_s (by decide)) (fun j hj => mEnt_o (by omega)) h3, PV_c (mEnt_s (by decide)) (mEnt_o (by decide)) (mEnt_o (by decide)) h4, ⟨⟨?_, g2, ?_⟩, ⟨?_, g5, ?_⟩, ⟨?_, ?_, ?_⟩⟩, ⟨?_, ?_, ?_⟩⟩
  · exact (mEnt_s (by decide)).trans g1
  · rw [mEnt_o (by decide), mEnt_o (by decide), mEnt_o (by decide)]; exact g3
  · exact (mEnt_s (by decide)).trans g4
  · rw [mEnt_o (by decide), mEnt_o (by decide), mEnt_o (by decide)]; exact g6
  · show upd σ.1 25 (nI (E.1.length + 1)) 25 = nI (E.1 ++ [x]).length
    rw [upd_same, List.length_append]; rfl
  · show (E.1 ++ [x]).length ≤ 200
    rw [List.length_append]; show E.1.length + 1 ≤ 200; omega
  · intro k y hy
    have hy : (E.1 ++ [x])[k]? = some y := hy
    rw [mEnt_13, mEnt_14, mEnt_15, mEnt_16]
    by_cases hk2 : k < E.1.length
    · rw [List.getElem?_append_left hk2] at hy
      rw [upd_other (by omega), upd_other (by omega), upd_other (by omega), upd_other (by omega)]
      exact g9 k y hy
    · rw [List.getElem?_append_right (by omega)] at hy
      have he : k = E.1.length := by
        by_cases z : k - E.1.length = 0
        · omega
        · rw [List.getElem?_eq_none (by show 1 ≤ _; omega)] at hy; cases hy
      subst he
      rw [Nat.sub_self] at hy
      have hy : some x = some y := hy
      obtain rfl := Option.some.inj hy
      rw [upd_same, upd_same, upd_same, upd_same]
      exact ⟨rfl, rfl, rfl, rfl, hp, hk.2, hk.1, hs, hc⟩
  · rw [mEnt_s (by decide)]; exact h6.1
  · rw [mEnt_s (by decide)]; exact h6.2.1
  · intro y hy hn
    rw [mEnt_o (by decide)]
    have hy : y ∈ E.1 ++ [x] := hy
    rcases List.mem_append.mp hy with hy | hy
    · exact h6.2.2 y hy hn
    · rw [List.mem_singleton.mp hy] at hn ⊢; exact hf hn
theorem p_tellEntity {w : Nat} (h : PS T n E o q v b σ) (hl : E.1.length < 200) (hp : b.2.1 + (n - q) ≤ 70000) {k m : Nat} (hk : 1 ≤ k ∧ k ≤ 3) (hm : m < 60) (hf : ¬ k = 1 → m < 41 ∧ σ.2.2 18 m = nI (E.2.2.2.2.2.2 m) ∧ E.2.2.2.2.2.2 m ≤ 8) {L : Nat → Int32} (h1 : L 1 = nI k) (h2 : L 2 = nI m) : Tm (fun f => x_tellEntity f 0 L σ) (fun r => FrV w σ r.2 ∧ PS T n (glA E (tkS T n q, b.2.1, k, m)) o q v (bKeep b T q (tkE T n q - q)) r.2) := by
  have hc := PS_cur h
  have hE := tkE_b T n q hc.1
  have hn := PS_q h
  have k25 : σ.1 25 = nI E.1.length := h.2.2.2.2.1.2.2.1
  have hi : ¬ (nI E.1.length < 0 ∨ 200 ≤ (nI E.1.length).toNatClampNeg) := n_in (by omega) (by omega)
  have hcl : (nI E.1.length).toNatClampNeg = E.1.length := n_cl (by omega)
  refine Tm_suc (fun f => by rw [x_tellEntity]) ?_
  rw [k25, hcl, h1]
  refine Tm_chk (by rw [hcl] at hi; exact hi) ?_
  refine Tm_suc (fun f => by rw [x_tellEntity]) ?_
  have hS1 : PS T n E o q v b (mAr σ 13 E.1.length (nI k)) := by
    obtain ⟨s1, s2, s3, s4, ⟨⟨g1, g2, g3⟩, ⟨g4, g5, g6⟩, ⟨g7, g8, g9⟩⟩, s6⟩ := h
    have r : ∀ j, j ≠ 13 → (mAr σ 13 E.1.length (nI k)).2.2 j = σ.2.2 j := fun j hj => updG_other hj
    refine ⟨PT_c (fun _ _ _ => rfl) (r 3 (by decide)) (r 1 (by decide)) s1, s2, PB_c (σ := σ) rfl rfl (fun j hj => r j (by omega)) s3, PV_c (σ := σ) rfl (r 21 (by decide)) (r 20 (by decide)) s4, ⟨⟨g1, g2, ?_⟩, ⟨g4, g5, ?_⟩, ⟨g7, g8, ?_⟩⟩, PF_c (σ := σ) rfl rfl (r 18 (by decide)) s6⟩
    · rw [r 22 (by decide), r 23 (by decide), r 24 (by decide)]; exact g3
    · rw [r 25 (by decide), r 26 (by decide), r 27 (by decide)]; exact g6
    · intro i x hx
      have hlt : i < E.1.length := by
        by_cases z : i < E.1.length
        · exact z
        · rw [List.getElem?_eq_none (by omega)] at hx; cases hx
      rw [r 14 (by decide), r 15 (by decide), r 16 (by decide)]
      show upd (σ.2.2 13) E.1.length (nI k) i = _ ∧ _
      rw [upd_other (by omega)]
      exact g9 i x hx
  refine Tm_ob (p_keep (M := 0) (P := 0) (w := 0) hS1 (Nat.zero_le _) (f := q) (e := tkE T n q) hE.1 (by omega) (by omega) (by rw [upd_other (by decide), upd_same]; exact hc.2.1) (by rw [upd_same]; exact hc.2.2.2.1)) (fun r1 hr1 => ?_)
  obtain ⟨hr1, hS2, _⟩ := hr1
  have t25 : r1.2.1 25 = nI E.1.length := hS2.2.2.2.2.1.2.2.1
  have t8 : r1.2.1 8 = nI q := hS2.1.2.2.2.2.1.2.1
  have t9 : r1.2.1 9 = nI (tkE T n q) := hS2.1.2.2.2.2.1.2.2.2.1
  have t1 : r1.1 = nI b.2.1 := by rw [hr1]
  show Tm (fun f => if ¬ (σ.1 25 < 0 ∨ 200 ≤ (σ.1 25).toNatClampNeg) then x_tellEntity f 2 L (r1.2.1, r1.2.2.1, updG r1.2.2.2 14 (upd (r1.2.2.2 14) (σ.1 25).toNatClampNeg r1.1)) else none) _
  rw [k25, hcl]
  refine Tm_chk (by rw [hcl] at hi; exact hi) ?_
  refine Tm_suc (fun f => by rw [x_tellEntity]) ?_
  show Tm (fun f => if ¬ (r1.2.1 25 < 0 ∨ 200 ≤ (r1.2.1 25).toNatClampNeg) then x_tellEntity f 3 L (r1.2.1, r1.2.2.1, updG (updG r1.2.2.2 14 (upd (r1.2.2.2 14) E.1.length r1.1)) 15 (upd (updG r1.2.2.2 14 (upd (r1.2.2.2 14) E.1.length r1.1) 15) (r1.2.1 25).toNatClampNeg (r1.2.1 9 - r1.2.1 8))) else none) _
  rw [t25, hcl, t8, t9, t1, n_sub (by omega) hE.1]
  refine Tm_chk (by rw [hcl] at hi; exact hi) ?_
  refine Tm_suc (fun f => by rw [x_tellEntity]) ?_
  refine Tm_chk (c := ¬ (r1.2.1 25 < 0 ∨ 200 ≤ (r1.2.1 25).toNatClampNeg)) (by rw [t25]; exact hi) ?_
  refine Tm_suc (fun f => by rw [x_tellEntity]) ?_
  have hsl : (tkS T n q).length = tkE T n q - q := seg_len _ _ _
  have h13 : r1.2.2.2 13 = upd (σ.2.2 13) E.1.length (nI k) := by
    rw [hr1]
    exact (mPool_is (σ := mAr σ 13 E.1.length (nI k)) (f := q) (p := b.2.1) h.2.2.1.2.2.1 (tkE T n q - q) (by omega)).2.2.2.1 13 (by decide)
  have h18 : r1.2.2.2 18 = σ.2.2 18 := by
    rw [hr1]
    exact (mPool_is (σ := mAr σ 13 E.1.length (nI k)) (f := q) (p := b.2.1) h.2.2.1.2.2.1 (tkE T n q - q) (by omega)).2.2.2.1 18 (by decide)
  have hst : ((upd r1.2.1 25 (r1.2.1 25 + 1), r1.2.2.1, updG (updG (updG r1.2.2.2 14 (upd (r1.2.2.2 14) E.1.length (nI b.2.1))) 15 (upd (updG r1.2.2.2 14 (upd (r1.2.2.2 14) E.1.length (nI b.2.1)) 15) E.1.length (nI (tkE T n q - q)))) 16 (upd ((updG (updG r1.2.2.2 14 (upd (r1.2.2.2 14) E.1.length (nI b.2.1))) 15 (upd (updG r1.2.2.2 14 (upd (r1.2.2.2 14) E.1.length (nI b.2.1)) 15) E.1.length (nI (tkE T n q - q)))) 16) (r1.2.1 25).toNatClampNeg (L 2))) : MS) = mEnt r1.2 E.1.length (nI k) (nI b.2.1) (nI (tkE T n q - q)) (nI m) := by
    rw [t25, hcl, h2, n_add1]
    have hu : upd (r1.2.2.2 13) E.1.length (nI k) = r1.2.2.2 13 := by
      rw [h13]; funext j
      by_cases z : j = E.1.length
      · subst z; rw [upd_same, upd_same]
      · rw [upd_other z]
    unfold mEnt
    rw [hu, updG_self]
    rfl
  refine Tm_some ?_
  show FrV w σ (upd r1.2.1 25 (r1.2.1 25 + 1), r1.2.2.1, updG (updG (updG r1.2.2.2 14 (upd (r1.2.2.2 14) E.1.length (nI b.2.1))) 15 (upd (updG r1.2.2.2 14 (upd (r1.2.2.2 14) E.1.length (nI b.2.1)) 15) E.1.length (nI (tkE T n q - q)))) 16 (upd ((updG (updG r1.2.2.2 14 (upd (r1.2.2.2 14) E.1.length (nI b.2.1))) 15 (upd (updG r1.2.2.2 14 (upd (r1.2.2.2 14) E.1.length (nI b.2.1)) 15) E.1.length (nI (tkE T n q - q)))) 16) (r1.2.1 25).toNatClampNeg (L 2))) ∧ PS T n (glA E (tkS T n q, b.2.1, k, m)) o q v (bKeep b T q (tkE T n q - q)) _
  rw [hst]
  have hV1 : FrV w σ r1.2 := by
    rw [hr1]
    have hF : FrV w σ (mAr σ 13 E.1.length (nI k)) := ⟨fun _ _ => rfl, rfl, fun j hj => mAr_o (by omega), fun i _ => by rw [mAr_o (by decide)], fun i _ => by rw [mAr_o (by decide)]⟩
    exact FrV_tr hF (FrV_pool _)
  refine ⟨FrV_tr hV1 FrV_ent, ?_⟩
  have := PS_ent hS2 (tkS T n q, b.2.1, k, m) hl (by show b.2.1 + (tkS T n q).length ≤ b.2.1 + (tkE T n q - q); rw [hsl]; exact Nat.le_refl _) hk hm (fun i hi => by
    have hi : i < (tkS T n q).length := hi
    rw [hsl] at hi
    show (if b.2.1 ≤ b.2.1 + i ∧ b.2.1 + i < b.2.1 + (tkE T n q - q) then T (q + (b.2.1 + i - b.2.1)) else _) = (tkS T n q).getD i 0
    rw [if_pos (by omega), show b.2.1 + i - b.2.1 = i by omega]
    exact (seg_at hi).symm) (fun z => by rw [h18]; exact hf z)
  rw [hsl] at this
  exact this
end TEN
end JnS80
section JnS81
variable {yf : Nat × Nat}
/-! Rows of variables (reference). -/
abbrev teC (T : Nat → Int32) (n : Nat) (E : En) (q v : Nat) : Prop := tkK T n q = 26 ∧ (fd E (tkS T n q)).1 = 0 ∧ ¬ v = 60
/-- the fault where a variable of the program is told -/
def teF (T : Nat → Int32) (n : Nat) (E : En) (q v : Nat) : Nat × Nat := if tkK T n q = 26 then (if (fd E (tkS T n q)).1 = 0 then (if v = 60 then (8, q) else (1, tkN T n q)) else (4, q)) else (2, q)
theorem teF_2 {T : Nat → Int32} {n : Nat} {E : En} {q v : Nat} (h : ¬ tkK T n q = 26) : teF T n E q v = (2, q) := if_neg h
theorem teF_4 {T : Nat → Int32} {n : Nat} {E : En} {q v : Nat} (h : tkK T n q = 26) (h2 : ¬ (fd E (tkS T n q)).1 = 0) : teF T n E q v = (4, q) := by unfold teF; rw [if_pos h, if_neg h2]
theorem teF_8 {T : Nat → Int32} {n : Nat} {E : En} {q v : Nat} (h : tkK T n q = 26) (h2 : (fd E (tkS T n q)).1 = 0) (h3 : v = 60) : teF T n E q v = (8, q) := by unfold teF; rw [if_pos h, if_pos h2, if_pos h3]
theorem teF_1 {T : Nat → Int32} {n : Nat} {E : En} {q v : Nat} (h : tkK T n q = 26) (h2 : (fd E (tkS T n q)).1 = 0) (h3 : ¬ v = 60) : teF T n E q v = (1, tkN T n q) := by unfold teF; rw [if_pos h, if_pos h2, if_neg h3]
abbrev eTe (T : Nat → Int32) (n : Nat) (E : En) (q v : Nat) (b : BT) : En := glA E (tkS T n q, b.2.1, 1, v)
def gTe {β : Type} (T : Nat → Int32) (n : Nat) (E : En) (q v : Nat) (b : BT) (k : DV → Option (Fl β)) : Option (Fl β) :=
  if teC T n E q v then pT T n q (fun q1 => k (q1, eTe T n E q v b, v + 1, bTl T n E q v b)) else some (Sum.inl (teF T n E q v))
theorem gTe_any {β : Type} {T : Nat → Int32} {n : Nat} {E : En} {q v : Nat} {b : BT} {k : DV → Option (Fl β)} {y : Fl β} (h : gTe T n E q v b k = some y) : (¬ (teC T n E q v ∧ ¬ tkK T n (tkN T n q) = 0) ∧ y = Sum.inl (teF T n E q v)) ∨ ((teC T n E q v ∧ ¬ tkK T n (tkN T n q) = 0) ∧ k (tkN T n q, eTe T n E q v b, v + 1, bTl T n E q v b) = some y) := by
  unfold gTe at h
  by_cases c : teC T n E q v
  · rw [if_pos c] at h
    rcases pT_any h with ⟨a, b⟩ | ⟨a, b⟩
    · exact Or.inl ⟨fun z => z.2 a, by rw [teF_1 c.1 c.2.1 c.2.2]; exact b⟩
    · exact Or.inr ⟨⟨c, a⟩, b⟩
  · rw [if_neg c] at h; exact Or.inl ⟨fun z => c z.1, (Option.some.inj h).symm⟩
/-- NAME { , NAME } ; -/
def GVr (T : Nat → Int32) (n : Nat) : Nat → En → Nat → Nat → BT → Option (Fl DV)
  | 0, _, _, _, _ => none
  | f + 1, E, q, v, b => (if E.2.2.2.1 = 0 then gTe T n E q v b else gTl T n E q v b) (fun r => if tkK T n r.1 = 12 then pT T n r.1 (fun q2 => GVr T n f r.2.1 q2 r.2.2.1 r.2.2.2) else pW T n 13 r.1 (fun q2 => some (Sum.inr (q2, r.2))))
def PoV (T : Nat → Int32) (n o w : Nat) (σ0 : MS) : Fl DV → Int32 × MS → Prop
  | Sum.inl yf, r => (∃ m, Bb yf m r.2) ∧ FrV w σ0 r.2
  | Sum.inr t, r => PS T n t.2.1 o t.1 t.2.2.1 t.2.2.2 r.2 ∧ FrV w σ0 r.2
theorem PoV_tr {T : Nat → Int32} {n o w : Nat} {σ τ : MS} {x : Fl DV} {r : Int32 × MS} (h : FrV w σ τ) (hp : PoV T n o w τ x r) : PoV T n o w σ x r := by
  cases x with
  | inl yf => exact ⟨hp.1, FrV_tr h hp.2⟩
  | inr t => exact ⟨hp.1, FrV_tr h hp.2⟩
section DVR
variable {T : Nat → Int32} {n : Nat} {E : En} {o q v : Nat} {b : BT} {σ : MS}
theorem v_find {w : Nat} (h : PS T n E o q v b σ) (hp : b.2.1 ≤ 70000) (L : Nat → Int32) : Tm (fun k => x_find k 0 L σ) (fun r => PS T n E o q v b r.2 ∧ FrV w σ r.2 ∧ r.2.1 46 = nI (fd E (tkS T n q)).1 ∧ (fd E (tkS T n q)).1 ≤ 3) := by
  have h0 := h
  obtain ⟨⟨⟨a1, a2⟩, a3, a4, a5, ⟨c1, c2, c3, c4, c5, c6⟩, a6⟩, ⟨d1, d2⟩, ⟨e1, e2, e3, e4, e5⟩, ⟨f1, f2, f3, f4, f5⟩, ⟨⟨g1, g2, g3⟩, ⟨g4, g5, g6⟩, ⟨g7, g8, g9⟩⟩, ⟨i1, i2, i3⟩⟩ := h
  have hE := tkE_b T n q c1
  have hgl : ∀ j, j < E.1.length → ∃ p l, mRow σ 14 15 j p l := fun j hj => by
    obtain ⟨k1, k2, k3, k4, k5, _⟩ := g9 j E.1[j] (List.getElem?_eq_getElem hj)
    exact ⟨_, _, k2, k3, by omega⟩
  refine Tm_mono (Tm_and (p_find (M := 0) (P := 0) (w := 0) h0 hp L) (s_find c2 c4 hE.1 (by omega) g1 (by omega) g7 g8 (rows_mRow hp E.2.1 g3) hgl L)) (fun r hr => ?_)
  obtain ⟨⟨p1, p2, p3, p4, p5, _⟩, q1, _⟩ := hr
  exact ⟨p1, FrV_s2 (fun j hj => p3 j (by omega) (by omega) (by omega)) q1, p4, p5⟩
theorem v_want {w : Nat} (h : PS T n E o q v b σ) {s : Nat} (h1 : 1 ≤ s) (h2 : s ≤ 24) {L : Nat → Int32} (hL : L 1 = nI s) : Tm (fun k => x_want k 0 L σ) (fun r => FrV w σ r.2 ∧ ((¬ (tkK T n q = s ∧ ¬ tkK T n (tkN T n q) = 0) ∧ Bb (wF T n s q) b.1 r.2) ∨ ((tkK T n q = s ∧ ¬ tkK T n (tkN T n q) = 0) ∧ PS T n E o (tkN T n q) v b r.2))) := by
  refine Tm_suc (fun k => by rw [x_want]) ?_
  refine Tm_ite (fun _ => ?_) (fun c => absurd (PS_ok h) c)
  refine Tm_ob (p_sign h h1 h2 (by rw [upd_same]; exact hL)) (fun r hr => ?_)
  obtain ⟨u, τ⟩ := r
  obtain ⟨rfl, hr⟩ := hr
  refine Tm_ite (fun c => ?_) (fun c => ?_)
  · have hk : ¬ tkK T n q = s := fun z => hr.mpr z c
    refine Tm_ob (s_cannot _ τ) (fun r hr => ?_)
    subst hr
    have hB := flt_b (M := 0) (P := 0) (w := 0) (yf := (2, q)) (PS_ok h) (PS_m h) (x := 2) (y := τ.1 8) (by rfl) (by exact PS_8 h)
    refine Tm_suc (fun k => by rw [x_want]) ?_
    refine Tm_ite (fun c => absurd c hB.1.1) (fun _ => ?_)
    refine Tm_suc (fun k => by rw [x_want]) ?_
    exact Tm_some ⟨FrV_flt _ _, Or.inl ⟨fun z => hk z.1, by rw [wF_n hk]; exact hB.1⟩⟩
  · have hk := hr.mp c
    refine Tm_suc (fun k => by rw [x_want]) ?_
    refine Tm_ite (fun _ => ?_) (fun c => absurd (PS_ok h) c)
    refine Tm_ob (v_take (w := w) h _) (fun r hr => ?_)
    refine Tm_suc (fun k => by rw [x_want]) ?_
    refine Tm_some ⟨hr.1, ?_⟩
    rcases hr.2 with ⟨a, c⟩ | ⟨a, c⟩
    · exact Or.inl ⟨fun z => z.2 a, by rw [wF_y hk]; exact c⟩
    · exact Or.inr ⟨⟨hk, a⟩, c⟩
/-- after a fault, from the loop's test on -/
theorem dv_b {ρ : MS} {N : Nat → Int32} (hb : ¬ ρ.1 10 = 0) : Tm (fun k => x_declareVar k 1 N ρ) (fun r => r.2 = ρ) := by
  have l11 : Tm (fun k => x_declareVar k 11 N ρ) (fun r => r.2 = ρ) := by
    refine Tm_suc (fun k => by rw [x_declareVar]) ?_
    refine Tm_ob (b_want hb _) (fun r hr => ?_)
    exact Tm_some hr
  refine Tm_suc (fun k => by rw [x_declareVar]) ?_
  refine Tm_ite (fun _ => l11) (fun _ => ?_)
  exact Tm_ite (fun z => absurd z hb) (fun _ => l11)
theorem dv_b8 {ρ : MS} {N : Nat → Int32} (hb : ¬ ρ.1 10 = 0) : Tm (fun k => x_declareVar k 8 N ρ) (fun r => r.2 = ρ) := by
  refine Tm_suc (fun k => by rw [x_declareVar]) ?_
  refine Tm_ite (fun z => absurd z hb) (fun _ => ?_)
  refine Tm_suc (fun k => by rw [x_declareVar]) ?_
  refine Tm_suc (fun k => by rw [x_declareVar]) ?_
  show Tm (fun k => x_declareVar k 1 _ ρ) _
  exact dv_b hb
/-- behind a name -/
theorem dv_8 {f w : Nat} {x : Fl DV} {N : Nat → Int32} (hG : (if tkK T n q = 12 then pT T n q (fun q2 => GVr T n f E q2 v b) else pW T n 13 q (fun q2 => some (Sum.inr (q2, E, v, b)))) = some x) (h : PS T n E o q v b σ)
    (H : ∀ (q2 : Nat) (ρ : MS) (N : Nat → Int32), q2 = tkN T n q → GVr T n f E q2 v b = some x → PS T n E o q2 v b ρ → N 1 = 1 → Tm (fun k => x_declareVar k 1 N ρ) (PoV T n o w ρ x)) : Tm (fun k => x_declareVar k 8 N σ) (PoV T n o w σ x) := by
  refine Tm_suc (fun k => by rw [x_declareVar]) ?_
  refine Tm_ite (fun _ => ?_) (fun z => absurd (PS_ok h) z)
  refine Tm_ob (p_sign h (s := 12) (by decide) (by decide) upd_same) (fun r hr => ?_)
  obtain ⟨u, τ⟩ := r
  obtain ⟨rfl, hr⟩ := hr
  refine Tm_ite (fun c => ?_) (fun c => ?_)
  · rw [if_neg (fun z => hr.mpr z c)] at hG
    refine Tm_suc (fun k => by rw [x_declareVar]) ?_
    refine Tm_suc (fun k => by rw [x_declareVar]) ?_
    show Tm (fun k => x_declareVar k 1 (upd (upd N 100 0) 1 0) τ) _
    refine Tm_suc (fun k => by rw [x_declareVar]) ?_
    show Tm (fun k => x_declareVar k 11 _ τ) _
    refine Tm_suc (fun k => by rw [x_declareVar]) ?_
    refine Tm_ob (v_want (w := w) h (s := 13) (by decide) (by decide) upd_same) (fun r hr => ?_)
    refine Tm_some ?_
    rcases pW_any hG with ⟨z, rfl⟩ | ⟨z, hx⟩
    · rcases hr.2 with ⟨_, hB⟩ | ⟨y, _⟩
      · exact ⟨⟨_, hB⟩, hr.1⟩
      · exact absurd y z
    · rcases hr.2 with ⟨y, _⟩ | ⟨_, hS⟩
      · exact absurd z y
      · obtain rfl := Option.some.inj hx
        exact ⟨hS, hr.1⟩
  · rw [if_pos (hr.mp c)] at hG
    refine Tm_suc (fun k => by rw [x_declareVar]) ?_
    show Tm (fun k => ob (x_take k 0 (fun _ => 0) τ) (fun r2 => x_declareVar k 1 (upd (upd N 100 1) 1 1) r2.2)) _
    refine Tm_ob (v_take (w := w) h _) (fun r hr => ?_)
    rcases pT_any hG with ⟨z, rfl⟩ | ⟨z, hx⟩
    · rcases hr.2 with ⟨_, hB⟩ | ⟨y, _⟩
      · refine Tm_mono (dv_b hB.1) (fun s hs => ?_)
        show (∃ m, Bb _ m s.2) ∧ FrV w τ s.2
        rw [hs]
        exact ⟨⟨_, hB⟩, hr.1⟩
      · exact absurd z y
    · rcases hr.2 with ⟨y, _⟩ | ⟨_, hS⟩
      · exact absurd y z
      · exact Tm_mono (H _ _ _ rfl hx hS upd_same) (fun s hs => PoV_tr hr.1 hs)
end DVR
end JnS81
section JnS82
variable {yf : Nat × Nat}
/-! Rows of variables (reference): all of a row. -/
section DVL
variable {T : Nat → Int32} {n : Nat} {o : Nat}
theorem p_dv : ∀ (f : Nat) (E : En) (q v : Nat) (b : BT) (x : Fl DV), GVr T n f E q v b = some x → ∀ (σ : MS) (L : Nat → Int32), PS T n E o q v b σ → b.2.1 + (n - q) ≤ 70000 → (E.2.2.2.1 = 0 → E.1.length ≤ v + 40) → L 1 = 1 → Tm (fun k => x_declareVar k 1 L σ) (PoV T n o E.2.2.2.1 σ x)
  | 0, E, q, v, b, x, hG, σ, L, h, hp, hg, hL => by cases hG
  | f + 1, E, q, v, b, x, hG, σ, L, h, hp, hg, hL => by
    have ih := p_dv f
    have hq := PS_q h
    have hE := tkE_b T n q hq.1
    have hN := tkN_b T n q hq.1
    have hv := PS_v h
    have w1 : σ.1 37 = nI E.2.2.2.1 := h.2.2.2.1.1
    have w2 : E.2.2.2.1 ≤ 42 := h.2.2.2.1.2.1
    rw [GVr] at hG
    refine Tm_suc (fun k => by rw [x_declareVar]) ?_
    rw [hL]
    refine Tm_ite (fun z => absurd z (by decide)) (fun _ => ?_)
    refine Tm_ite (fun _ => ?_) (fun z => absurd (PS_ok h) z)
    refine Tm_ob (v_wantName (w := E.2.2.2.1) h _) (fun r hr => ?_)
    rcases hr with ⟨x1, x2, x3⟩ | ⟨x1, x2⟩
    · refine Tm_ite (fun z => absurd z x2.1) (fun _ => ?_)
      have hx : x = Sum.inl (2, q) := by
        by_cases w0 : E.2.2.2.1 = 0
        · rw [if_pos w0] at hG
          rcases gTe_any hG with ⟨_, hx⟩ | ⟨y, _⟩
          · rw [teF_2 x1] at hx; exact hx
          · exact absurd y.1.1 x1
        · rw [if_neg w0] at hG
          rcases gTl_any hG with ⟨_, hx⟩ | ⟨y, _⟩
          · rw [tvF_2 x1] at hx; exact hx
          · exact absurd y.1.1 x1
      subst hx
      exact Tm_some ⟨⟨_, x2⟩, x3⟩
    · rw [x2]
      refine Tm_ite (fun _ => ?_) (fun z => absurd (PS_ok h) z)
      refine Tm_suc (fun k => by rw [x_declareVar]) ?_
      rw [w1]
      by_cases w0 : E.2.2.2.1 = 0
      · rw [if_pos w0] at hG
        refine Tm_ite (fun _ => ?_) (fun z => absurd (by rw [w0]; rfl) z)
        refine Tm_ob (v_find (w := E.2.2.2.1) h (by omega) _) (fun r2 hr2 => ?_)
        obtain ⟨hS2, hV2, h46, hle⟩ := hr2
        rw [h46]
        refine Tm_ite (fun z => ?_) (fun z => ?_)
        · have z0 : (fd E (tkS T n q)).1 = 0 := (n_le0 (by omega)).mp z
          refine Tm_suc (fun k => by rw [x_declareVar]) ?_
          refine Tm_ite (fun _ => ?_) (fun z => absurd (PS_ok hS2) z)
          refine Tm_suc (fun k => by rw [x_declareVar]) ?_
          refine Tm_ob (v_newSlot (w := E.2.2.2.1) hS2 upd_same) (fun r3 hr3 => ?_)
          rcases hr3 with ⟨hv6, hB, hV3⟩ | ⟨hv6, hr, hS3⟩
          · have hx : x = Sum.inl (8, q) := by
              rcases gTe_any hG with ⟨_, hx⟩ | ⟨y, _⟩
              · rw [teF_8 x1 z0 hv6] at hx; exact hx
              · exact absurd hv6 y.1.2.2
            subst hx
            refine Tm_suc (fun k => by rw [x_declareVar]) ?_
            refine Tm_ite (fun z => absurd z hB.1) (fun _ => ?_)
            refine Tm_suc (fun k => by rw [x_declareVar]) ?_
            refine Tm_mono (dv_b8 hB.1) (fun s hs => ?_)
            show (∃ m, Bb _ m s.2) ∧ FrV E.2.2.2.1 σ s.2
            rw [hs]
            exact ⟨⟨_, hB⟩, FrV_tr hV2 hV3⟩
          · subst hr
            have hS3 : PS T n E o q (v + 1) (bSlot b (60 * E.2.2.2.1 + v) 1) (mSlot r2.2 E.2.2.2.1 v (nI 1)) := hS3
            refine Tm_suc (fun k => by rw [x_declareVar]) ?_
            refine Tm_ite (fun _ => ?_) (fun z => absurd (PS_ok hS3) z)
            refine Tm_ob (p_tellEntity (w := E.2.2.2.1) (k := 1) (m := v) hS3 (by have := hg w0; omega) (by rw [bSlot_p]; omega) (by decide) hv6 (fun z => absurd rfl z) (by rw [upd_other (by decide), upd_same]; rfl) (by rw [upd_same, upd_same])) (fun r4 hr4 => ?_)
            refine Tm_ob (v_take (w := E.2.2.2.1) hr4.2 _) (fun r5 hr5 => ?_)
            have hV5 : FrV E.2.2.2.1 σ r5.2 := FrV_tr hV2 (FrV_tr (FrV_slot hv6 _) (FrV_tr hr4.1 hr5.1))
            refine Tm_suc (fun k => by rw [x_declareVar]) ?_
            rcases hr5.2 with ⟨y, hB⟩ | ⟨y, hS5⟩
            · have hx : x = Sum.inl (1, tkN T n q) := by
                rcases gTe_any hG with ⟨_, hx⟩ | ⟨u, _⟩
                · rw [teF_1 x1 z0 (by omega)] at hx; exact hx
                · exact absurd y u.2
              subst hx
              refine Tm_mono (dv_b8 hB.1) (fun s hs => ?_)
              show (∃ m, Bb _ m s.2) ∧ FrV E.2.2.2.1 σ s.2
              rw [hs]
              exact ⟨⟨_, hB⟩, hV5⟩
            · rcases gTe_any hG with ⟨u, _⟩ | ⟨_, hx⟩
              · exact absurd ⟨⟨x1, z0, by omega⟩, y⟩ u
              · refine Tm_mono (dv_8 (w := E.2.2.2.1) hx hS5 (fun q2 ρ N hq2 hG2 hS6 hN1 => ?_)) (fun s hs => PoV_tr hV5 hs)
                have hN2 := tkN_b T n (tkN T n q) hN.2.1
                have hq2 : q2 = tkN T n (tkN T n q) := hq2
                refine ih _ _ _ _ _ hG2 ρ N hS6 ?_ (fun _ => ?_) hN1
                · show b.2.1 + (tkE T n q - q) + (n - q2) ≤ 70000
                  omega
                · show (E.1 ++ [_]).length ≤ v + 1 + 40
                  rw [List.length_append]
                  have := hg w0
                  show E.1.length + 1 ≤ _
                  omega
        · have z0 : ¬ (fd E (tkS T n q)).1 = 0 := fun y => z ((n_le0 (by omega)).mpr y)
          have hx : x = Sum.inl (4, q) := by
            rcases gTe_any hG with ⟨_, hx⟩ | ⟨y, _⟩
            · rw [teF_4 x1 z0] at hx; exact hx
            · exact absurd y.1.2.1 z0
          subst hx
          refine Tm_ob (s_fault _ r2.2) (fun r4 hr4 => ?_)
          have hr4 : r4 = (0, mFlt r2.2 4 (r2.2.1 8)) := hr4
          subst hr4
          have hB := flt_b (M := 0) (P := 0) (w := 0) (yf := (4, q)) (PS_ok hS2) (PS_m hS2) (x := 4) (y := r2.2.1 8) (by rfl) (by exact PS_8 hS2)
          refine Tm_suc (fun k => by rw [x_declareVar]) ?_
          refine Tm_ite (fun z => absurd z hB.1.1) (fun _ => ?_)
          refine Tm_suc (fun k => by rw [x_declareVar]) ?_
          refine Tm_ite (fun z => absurd z hB.1.1) (fun _ => ?_)
          refine Tm_suc (fun k => by rw [x_declareVar]) ?_
          refine Tm_mono (dv_b8 hB.1.1) (fun s hs => ?_)
          show (∃ m, Bb _ m s.2) ∧ FrV E.2.2.2.1 σ s.2
          rw [hs]
          exact ⟨⟨_, hB.1⟩, FrV_tr hV2 (FrV_flt _ _)⟩
      · rw [if_neg w0] at hG
        refine Tm_ite (fun z => absurd ((n_eq0 (by omega)).mp z) w0) (fun _ => ?_)
        refine Tm_suc (fun k => by rw [x_declareVar]) ?_
        refine Tm_ob (p_tellLocal h hp upd_same) (fun r3 hr3 => ?_)
        obtain ⟨hV3, hr3⟩ := hr3
        rcases hr3 with ⟨y, hB⟩ | ⟨y, hS3⟩
        · have hx : x = Sum.inl (tvF T n E q v) := by
            rcases gTl_any hG with ⟨_, hx⟩ | ⟨u, _⟩
            · exact hx
            · exact absurd u y
          subst hx
          refine Tm_mono (dv_b8 hB.1) (fun s hs => ?_)
          show (∃ m, Bb _ m s.2) ∧ FrV E.2.2.2.1 σ s.2
          rw [hs]
          exact ⟨⟨_, hB⟩, hV3⟩
        · rcases gTl_any hG with ⟨u, _⟩ | ⟨_, hx⟩
          · exact absurd y u
          · refine Tm_mono (dv_8 (w := E.2.2.2.1) hx hS3 (fun q2 ρ N hq2 hG2 hS6 hN1 => ?_)) (fun s hs => PoV_tr hV3 hs)
            have hN2 := tkN_b T n (tkN T n q) hN.2.1
            have hq2 : q2 = tkN T n (tkN T n q) := hq2
            refine ih _ _ _ _ _ hG2 ρ N hS6 ?_ (fun z => absurd z w0) hN1
            show b.2.1 + (tkE T n q - q) + (n - q2) ≤ 70000
            omega
/-- var .. ; -/
theorem p_declareVar {f : Nat} {E : En} {q v : Nat} {b : BT} {x : Fl DV} {σ : MS} {L : Nat → Int32} (hG : pT T n q (fun q1 => GVr T n f E q1 v b) = some x) (h : PS T n E o q v b σ) (hp : b.2.1 + (n - q) ≤ 70000) (hg : E.2.2.2.1 = 0 → E.1.length ≤ v + 40) : Tm (fun k => x_declareVar k 0 L σ) (PoV T n o E.2.2.2.1 σ x) := by
  have hN := tkN_b T n q (PS_q h).1
  refine Tm_suc (fun k => by rw [x_declareVar]) ?_
  refine Tm_ob (v_take (w := E.2.2.2.1) h _) (fun r hr => ?_)
  rcases pT_any hG with ⟨z, rfl⟩ | ⟨z, hx⟩
  · rcases hr.2 with ⟨_, hB⟩ | ⟨y, _⟩
    · refine Tm_mono (dv_b hB.1) (fun s hs => ?_)
      show (∃ m, Bb _ m s.2) ∧ FrV E.2.2.2.1 σ s.2
      rw [hs]
      exact ⟨⟨_, hB⟩, hr.1⟩
    · exact absurd z y
  · rcases hr.2 with ⟨y, _⟩ | ⟨_, hS⟩
    · exact absurd y z
    · exact Tm_mono (p_dv f _ _ _ _ _ hx _ _ hS (by omega) hg upd_same) (fun s hs => PoV_tr hr.1 hs)
/-- what a row of variables brings -/
def MoV (n : Nat) (E : En) (q v : Nat) (b : BT) (r : DV) : Prop := q < r.1 ∧ r.1 ≤ n ∧ v ≤ r.2.2.1 ∧ r.2.2.1 ≤ 60 ∧ r.2.2.2.1 = b.1 ∧ r.2.2.2.2.1 + q ≤ b.2.1 + r.1 ∧ b.2.1 ≤ r.2.2.2.2.1 ∧ r.2.1.2.2 = E.2.2 ∧ (E.2.2.2.1 = 0 → r.2.1.1.length + v = E.1.length + r.2.2.1 ∧ r.2.1.2 = E.2) ∧ (¬ E.2.2.2.1 = 0 → r.2.1.1 = E.1) ∧ (∀ x ∈ r.2.1.1, ¬ x.2.2.1 = 1 → x ∈ E.1) ∧ r.2.2.2.2.2.1 = b.2.2.1
theorem gvr_mo : ∀ (f : Nat) (E : En) (q v : Nat) (b : BT) (r : DV), q ≤ n → v ≤ 60 → GVr T n f E q v b = some (Sum.inr r) → MoV n E q v b r
  | 0, E, q, v, b, r, hq, hv, hG => by cases hG
  | f + 1, E, q, v, b, r, hq, hv, hG => by
    have ih := gvr_mo f
    have hE := tkE_b T n q hq
    have hN := tkN_b T n q hq
    rw [GVr] at hG
    have step : ∀ (E1 : En), tkK T n q = 26 → ¬ v = 60 → E1.2.2 = E.2.2 → (E.2.2.2.1 = 0 → E1.1.length = E.1.length + 1 ∧ E1.2 = E.2) → (¬ E.2.2.2.1 = 0 → E1.1 = E.1) → (∀ x ∈ E1.1, ¬ x.2.2.1 = 1 → x ∈ E.1) → (if tkK T n (tkN T n q) = 12 then pT T n (tkN T n q) (fun q2 => GVr T n f E1 q2 (v + 1) (bTl T n E q v b)) else pW T n 13 (tkN T n q) (fun q2 => some (Sum.inr (q2, E1, v + 1, bTl T n E q v b)))) = some (Sum.inr r) → MoV n E q v b r := by
      intro E1 hK hv6 e1 e2 e3 e4 hx
      have hN1 := hN.2.2.2 (by rw [hK]; decide)
      have hN2 := tkN_b T n (tkN T n q) hN.2.1
      by_cases c : tkK T n (tkN T n q) = 12
      · rw [if_pos c] at hx
        rcases pT_any hx with ⟨_, y⟩ | ⟨_, y⟩
        · cases y
        · obtain ⟨m1, m2, m3, m4, m5, m6, m7, m8, m9, m10, m11, m12⟩ := ih _ _ _ _ _ hN2.2.1 (by omega) y
          have m6 : r.2.2.2.2.1 + tkN T n (tkN T n q) ≤ b.2.1 + (tkE T n q - q) + r.1 := m6
          have m7 : b.2.1 + (tkE T n q - q) ≤ r.2.2.2.2.1 := m7
          have w0 : E1.2.2.2.1 = E.2.2.2.1 := by rw [e1]
          refine ⟨by omega, m2, by omega, m4, m5, by omega, by omega, m8.trans e1, fun z => ?_, fun z => (m10 (by rw [w0]; exact z)).trans (e3 z), fun x hx1 hx2 => e4 x (m11 x hx1 hx2) hx2, m12⟩
          obtain ⟨k1, k2⟩ := m9 (by rw [w0]; exact z)
          obtain ⟨k3, k4⟩ := e2 z
          exact ⟨by omega, k2.trans k4⟩
      · rw [if_neg c] at hx
        rcases pW_any hx with ⟨_, y⟩ | ⟨y0, y⟩
        · cases y
        · obtain rfl := Sum.inr.inj (Option.some.inj y)
          refine ⟨?_, hN2.2.1, ?_, ?_, rfl, ?_, ?_, e1, fun z => ?_, e3, e4, rfl⟩
          · show q < tkN T n (tkN T n q); omega
          · show v ≤ v + 1; omega
          · show v + 1 ≤ 60; omega
          · show b.2.1 + (tkE T n q - q) + q ≤ b.2.1 + tkN T n (tkN T n q); omega
          · show b.2.1 ≤ b.2.1 + (tkE T n q - q); omega
          · obtain ⟨k3, k4⟩ := e2 z
            exact ⟨by show E1.1.length + v = E.1.length + (v + 1); omega, k4⟩
    by_cases w0 : E.2.2.2.1 = 0
    · rw [if_pos w0] at hG
      rcases gTe_any hG with ⟨_, y⟩ | ⟨y0, y⟩
      · cases y
      · refine step (eTe T n E q v b) y0.1.1 y0.1.2.2 rfl (fun _ => ⟨by show (E.1 ++ [_]).length = _; rw [List.length_append]; rfl, rfl⟩) (fun z => absurd w0 z) (fun x hx hn => ?_) y
        rcases List.mem_append.mp (show x ∈ E.1 ++ [(tkS T n q, b.2.1, 1, v)] from hx) with hx | hx
        · exact hx
        · rw [List.mem_singleton.mp hx] at hn; exact absurd rfl hn
    · rw [if_neg w0] at hG
      rcases gTl_any hG with ⟨_, y⟩ | ⟨y0, y⟩
      · cases y
      · exact step (eTl T n E q v b) y0.1.1 y0.1.2.2 rfl (fun z => absurd z w0) (fun _ => rfl) (fun x hx _ => hx) y
theorem gvr_tot : ∀ (f : Nat) (E : En) (q v : Nat) (b : BT), q ≤ n → n - q + 1 ≤ f → ∃ y, GVr T n f E q v b = some y
  | 0, E, q, v, b, hq, hf => absurd hf (by omega)
  | f + 1, E, q, v, b, hq, hf => by
    have ih := gvr_tot f
    have hN := tkN_b T n q hq
    rw [GVr]
    have step : ∀ (E1 : En) (v1 : Nat) (b1 : BT), tkK T n q = 26 → ∃ y, (if tkK T n (tkN T n q) = 12 then pT T n (tkN T n q) (fun q2 => GVr T n f E1 q2 v1 b1) else pW T n 13 (tkN T n q) (fun q2 => some (Sum.inr (q2, E1, v1, b1)))) = some y := by
      intro E1 v1 b1 hK
      have hN1 := hN.2.2.2 (by rw [hK]; decide)
      have hN2 := tkN_b T n (tkN T n q) hN.2.1
      by_cases c : tkK T n (tkN T n q) = 12
      · rw [if_pos c]; exact pT_t (ih _ _ _ _ hN2.2.1 (by omega))
      · rw [if_neg c]; exact pW_t (fun _ => ⟨_, rfl⟩)
    by_cases w0 : E.2.2.2.1 = 0
    · rw [if_pos w0]
      unfold gTe
      by_cases c : teC T n E q v
      · rw [if_pos c]; exact pT_t (step _ _ _ c.1)
      · rw [if_neg c]; exact ⟨_, rfl⟩
    · rw [if_neg w0]
      unfold gTl
      by_cases c : tlC T n E q v
      · rw [if_pos c]; exact pT_t (step _ _ _ c.1)
      · rw [if_neg c]; exact ⟨_, rfl⟩
end DVL
end JnS82
section JnS83
variable {yf : Nat × Nat}
/-! Params: the grammar; what stays. -/
/-- the callable p has c params -/
def sP (E : En) (p c : Nat) : En := (E.1, E.2.1, E.2.2.1, E.2.2.2.1, E.2.2.2.2.1, E.2.2.2.2.2.1, updN E.2.2.2.2.2.2 p c)
/-- next token, what is around, how many, modes, variables, what is laid -/
abbrev PV6 := Nat × En × Nat × (Nat → Nat) × Nat × BT
/-- the fault where a ninth param is told -/
def paF (T : Nat → Int32) (n : Nat) (E : En) (q : Nat) : Nat × Nat := if tkK T n q = 26 then (if (E.2.1.find? (fun x => decide (x.1 = tkS T n q))).isSome = true then (4, q) else (8, q)) else (2, q)
theorem paF_2 {T : Nat → Int32} {n : Nat} {E : En} {q : Nat} (h : ¬ tkK T n q = 26) : paF T n E q = (2, q) := if_neg h
theorem paF_4 {T : Nat → Int32} {n : Nat} {E : En} {q : Nat} (h : tkK T n q = 26) (h2 : (E.2.1.find? (fun x => decide (x.1 = tkS T n q))).isSome = true) : paF T n E q = (4, q) := by unfold paF; rw [if_pos h, if_pos h2]
theorem paF_8 {T : Nat → Int32} {n : Nat} {E : En} {q : Nat} (h : tkK T n q = 26) (h2 : (E.2.1.find? (fun x => decide (x.1 = tkS T n q))).isSome = false) : paF T n E q = (8, q) := by unfold paF; rw [if_pos h, if_neg (by rw [h2]; decide)]
def gPJ {β : Type} (T : Nat → Int32) (n : Nat) (E : En) (c m q v : Nat) (b : BT) (k : Nat → DV → Option (Fl β)) : Option (Fl β) := if c = 8 then some (Sum.inl (paF T n E q)) else gTl T n E q v b (k m)
def gPI {β : Type} (T : Nat → Int32) (n : Nat) (pr : Bool) (E : En) (c q v : Nat) (b : BT) (k : Nat → DV → Option (Fl β)) : Option (Fl β) :=
  if pr = true ∧ (tkK T n q = 35 ∨ tkK T n q = 36 ∨ tkK T n q = 37) then pT T n q (fun q1 => gPJ T n E c (tkK T n q - 35) q1 v b k) else gPJ T n E c 0 q v b k
def GPm (T : Nat → Int32) (n : Nat) (pr : Bool) (p : Nat) : Nat → En → Nat → (Nat → Nat) → Nat → Nat → BT → Option (Fl PV6)
  | 0, _, _, _, _, _, _ => none
  | f + 1, E, c, md, q, v, b =>
    if c = 0 then (if tkK T n q = 7 then some (Sum.inr (q, E, c, md, v, b)) else gPI T n pr E c q v b (fun m r => GPm T n pr p f (sP r.2.1 p (c + 1)) (c + 1) (updN md c m) r.1 r.2.2.1 r.2.2.2))
    else if tkK T n q = 12 then pT T n q (fun q1 => gPI T n pr E c q1 v b (fun m r => GPm T n pr p f (sP r.2.1 p (c + 1)) (c + 1) (updN md c m) r.1 r.2.2.1 r.2.2.2))
    else if tkK T n q = 7 then some (Sum.inr (q, E, c, md, v, b)) else some (Sum.inl (2, q))
/-- what params leave as it is -/
def FrA (p : Nat) (σ σ' : MS) : Prop :=
  (∀ j, ¬ ((5 ≤ j ∧ j ≤ 13) ∨ j = 24 ∨ j = 25 ∨ j = 38 ∨ (46 ≤ j ∧ j ≤ 48)) → σ'.1 j = σ.1 j) ∧ σ'.2.1 = σ.2.1 ∧
  (∀ j, ¬ ((12 ≤ j ∧ j ≤ 16) ∨ (18 ≤ j ∧ j ≤ 24)) → σ'.2.2 j = σ.2.2 j) ∧
  (∀ i, i ≠ p → σ'.2.2 18 i = σ.2.2 18 i) ∧ (∀ i, i < 8 * p ∨ 8 * p + 8 ≤ i → σ'.2.2 19 i = σ.2.2 19 i) ∧ (∀ i, i ≠ p + 1 → σ'.2.2 21 i = σ.2.2 21 i) ∧ (∀ i, i < 60 * (p + 1) ∨ 60 * (p + 1) + 60 ≤ i → σ'.2.2 20 i = σ.2.2 20 i) ∧ ((∃ k, k ≤ 8 ∧ σ.2.2 18 p = nI k) → ∃ k, k ≤ 8 ∧ σ'.2.2 18 p = nI k)
theorem FrA_of {p : Nat} {σ τ : MS} (h : FrV (p + 1) σ τ) : FrA p σ τ := ⟨h.1, h.2.1, fun j hj => h.2.2.1 j (by omega), fun i _ => by rw [h.2.2.1 18 (by decide)], fun i _ => by rw [h.2.2.1 19 (by decide)], h.2.2.2.1, h.2.2.2.2, fun z => by rw [h.2.2.1 18 (by decide)]; exact z⟩
theorem FrA_rf {p : Nat} {σ : MS} : FrA p σ σ := FrA_of FrV_rf
theorem FrA_tr {p : Nat} {σ τ υ : MS} (h : FrA p σ τ) (g : FrA p τ υ) : FrA p σ υ := ⟨fun j hj => (g.1 j hj).trans (h.1 j hj), g.2.1.trans h.2.1, fun j hj => (g.2.2.1 j hj).trans (h.2.2.1 j hj), fun j hj => (g.2.2.2.1 j hj).trans (h.2.2.2.1 j hj), fun j hj => (g.2.2.2.2.1 j hj).trans (h.2.2.2.2.1 j hj), fun j hj => (g.2.2.2.2.2.1 j hj).trans (h.2.2.2.2.2.1 j hj), fun j hj => (g.2.2.2.2.2.2.1 j hj).trans (h.2.2.2.2.2.2.1 j hj), fun z => g.2.2.2.2.2.2.2 (h.2.2.2.2.2.2.2 z)⟩
theorem FrA_18 {p c : Nat} {σ : MS} (hc : c ≤ 8) : FrA p σ (mAr σ 18 p (nI c)) := ⟨fun _ _ => rfl, rfl, fun j hj => mAr_o (by omega), fun i hi => by rw [mAr_s, upd_other hi], fun i _ => by rw [mAr_o (by decide)], fun i _ => by rw [mAr_o (by decide)], fun i _ => by rw [mAr_o (by decide)], fun _ => ⟨c, hc, by rw [mAr_s, upd_same]⟩⟩
theorem FrA_19 {p i : Nat} {σ : MS} (hi : 8 * p ≤ i ∧ i < 8 * p + 8) (x : Int32) : FrA p σ (mAr σ 19 i x) := ⟨fun _ _ => rfl, rfl, fun j hj => mAr_o (by omega), fun j hj => by rw [mAr_o (by decide)], fun j hj => by rw [mAr_s, upd_other (by omega)], fun i _ => by rw [mAr_o (by decide)], fun i _ => by rw [mAr_o (by decide)], fun z => by rw [mAr_o (by decide)]; exact z⟩
section PAR
variable {T : Nat → Int32} {n : Nat} {E : En} {o q v : Nat} {b : BT} {σ : MS}
theorem updN_s {f : Nat → Nat} {k x : Nat} : updN f k x k = x := if_pos rfl
theorem updN_o {f : Nat → Nat} {k x j : Nat} (h : j ≠ k) : updN f k x j = f j := if_neg h
/-- rows 18, 19 may change where PS does not look -/
theorem PS_ar {j i : Nat} {x : Int32} (h : PS T n E o q v b σ) (hj : j = 17 ∨ j = 19) : PS T n E o q v b (mAr σ j i x) := by
  obtain ⟨s1, s2, s3, s4, s5, s6⟩ := h
  have r : ∀ k, k ≠ j → (mAr σ j i x).2.2 k = σ.2.2 k := fun k hk => updG_other hk
  exact ⟨PT_c (σ := σ) (fun _ _ _ => rfl) (r 3 (by omega)) (r 1 (by omega)) s1, s2, PB_c (σ := σ) rfl rfl (fun k hk => r k (by omega)) s3, PV_c (σ := σ) rfl (r 21 (by omega)) (r 20 (by omega)) s4, PN_c (σ := σ) rfl rfl rfl (fun k hk => r k (by omega)) s5, PF_c (σ := σ) rfl rfl (r 18 (by omega)) s6⟩
theorem PS_par {p c : Nat} (h : PS T n E o q v b σ) (hc : c ≤ 8) : PS T n (sP E p c) o q v b (mAr σ 18 p (nI c)) := by
  obtain ⟨s1, s2, s3, s4, s5, s6⟩ := h
  have r : ∀ k, k ≠ 18 → (mAr σ 18 p (nI c)).2.2 k = σ.2.2 k := fun k hk => updG_other hk
  have hN : PN (mAr σ 18 p (nI c)) E b v := PN_c (σ := σ) rfl rfl rfl (fun k hk => r k (by omega)) s5
  refine ⟨PT_c (σ := σ) (fun _ _ _ => rfl) (r 3 (by omega)) (r 1 (by omega)) s1, s2, PB_c (σ := σ) rfl rfl (fun k hk => r k (by omega)) s3, PV_c (σ := σ) rfl (r 21 (by omega)) (r 20 (by omega)) s4, hN, s6.1, s6.2.1, fun x hx hn => ?_⟩
  obtain ⟨a1, a2, a3⟩ := s6.2.2 x hx hn
  show x.2.2.2 < 41 ∧ updG σ.2.2 18 (upd (σ.2.2 18) p (nI c)) 18 x.2.2.2 = nI (updN E.2.2.2.2.2.2 p c x.2.2.2) ∧ updN E.2.2.2.2.2.2 p c x.2.2.2 ≤ 8
  rw [updG_same]
  by_cases z : x.2.2.2 = p
  · rw [z, upd_same, updN_s]; exact ⟨by omega, rfl, hc⟩
  · rw [upd_other z, updN_o z]; exact ⟨a1, a2, a3⟩
end PAR
def PoA (T : Nat → Int32) (n o p : Nat) (σ0 : MS) : Fl PV6 → Int32 × MS → Prop
  | Sum.inl yf, r => (∃ m, Bb yf m r.2) ∧ FrA p σ0 r.2
  | Sum.inr t, r => PS T n t.2.1 o t.1 t.2.2.2.2.1 t.2.2.2.2.2 r.2 ∧ FrA p σ0 r.2 ∧ t.2.2.1 ≤ 8 ∧ (∀ i, i < t.2.2.1 → r.2.2.2 19 (8 * p + i) = nI (t.2.2.2.1 i) ∧ t.2.2.2.1 i ≤ 2)
theorem PoA_tr {T : Nat → Int32} {n o p : Nat} {σ τ : MS} {x : Fl PV6} {r : Int32 × MS} (h : FrA p σ τ) (hp : PoA T n o p τ x r) : PoA T n o p σ x r := by
  cases x with
  | inl yf => exact ⟨hp.1, FrA_tr h hp.2⟩
  | inr t => exact ⟨hp.1, FrA_tr h hp.2.1, hp.2.2⟩
theorem pm_b {ρ : MS} {N : Nat → Int32} (hb : ¬ ρ.1 10 = 0) : Tm (fun k => x_paramsOf k 1 N ρ) (fun r => r.2 = ρ) := by
  refine Tm_suc (fun k => by rw [x_paramsOf]) ?_
  refine Tm_ite (fun z => absurd z hb) (fun _ => ?_)
  refine Tm_suc (fun k => by rw [x_paramsOf]) ?_
  refine Tm_ite (fun z => absurd z hb) (fun _ => ?_)
  refine Tm_suc (fun k => by rw [x_paramsOf]) ?_
  exact Tm_some rfl
theorem pm_b14 {ρ : MS} {N : Nat → Int32} (hb : ¬ ρ.1 10 = 0) : Tm (fun k => x_paramsOf k 14 N ρ) (fun r => r.2 = ρ) := by
  refine Tm_suc (fun k => by rw [x_paramsOf]) ?_
  refine Tm_ite (fun z => absurd z hb) (fun _ => ?_)
  refine Tm_suc (fun k => by rw [x_paramsOf]) ?_
  exact pm_b hb
theorem pm_b13 {ρ : MS} {N : Nat → Int32} (hb : ¬ ρ.1 10 = 0) : Tm (fun k => x_paramsOf k 13 N ρ) (fun r => r.2 = ρ) := by
  refine Tm_suc (fun k => by rw [x_paramsOf]) ?_
  exact Tm_ite (fun z => absurd z hb) (fun _ => pm_b14 hb)
theorem pm_b9 {ρ : MS} {N : Nat → Int32} (hb : ¬ ρ.1 10 = 0) : Tm (fun k => x_paramsOf k 9 N ρ) (fun r => r.2 = ρ) := by
  refine Tm_suc (fun k => by rw [x_paramsOf]) ?_
  refine Tm_ob (b_wantName hb _) (fun r hr => ?_)
  rw [hr]
  exact Tm_ite (fun z => absurd z hb) (fun _ => pm_b13 hb)
theorem pm_b4 {ρ : MS} {N : Nat → Int32} (hb : ¬ ρ.1 10 = 0) : Tm (fun k => x_paramsOf k 4 N ρ) (fun r => r.2 = ρ) := by
  refine Tm_suc (fun k => by rw [x_paramsOf]) ?_
  exact Tm_ite (fun z => absurd z hb) (fun _ => pm_b9 hb)
theorem PoA_b {T : Nat → Int32} {n o p m : Nat} {σ ρ : MS} {g : Nat → Option (Int32 × MS)} (hB : Bb yf m ρ) (hF : FrA p σ ρ) (h : Tm g (fun r => r.2 = ρ)) : Tm g (PoA T n o p σ (Sum.inl yf)) :=
  Tm_mono h (fun s hs => by
    show (∃ m, Bb yf m s.2) ∧ FrA p σ s.2
    rw [hs]; exact ⟨⟨_, hB⟩, hF⟩)
end JnS83
section JnS84
/-! Params of the reference. -/
section PML
variable {T : Nat → Int32} {n : Nat} {o p : Nat}
/-- the ninth param: a fault -/
theorem fl_F {ρ : MS} {a b : Nat} (x y : Int32) (h : ρ.1 10 = 0) (hx : x = nI a) (hy : y = nI b) : Fb (a, b) (mFlt ρ x y) := by
  unfold mFlt
  rw [if_pos h]
  refine ⟨?_, ?_, ?_⟩
  · show ¬ upd (upd (upd ρ.1 10 1) 11 x) 12 y 10 = 0
    rw [upd_other (by decide), upd_other (by decide), upd_same]; decide
  · show upd (upd (upd ρ.1 10 1) 11 x) 12 y 11 = _
    rw [upd_other (by decide), upd_same]; exact hx
  · show upd (upd (upd ρ.1 10 1) 11 x) 12 y 12 = _
    rw [upd_same]; exact hy
theorem fl_G {ρ : MS} {y0 : Nat × Nat} (x y : Int32) (h : Fb y0 ρ) : Fb y0 (mFlt ρ x y) := by
  unfold mFlt
  rw [if_neg h.1]
  exact h
theorem pm_10 {E : En} {q v : Nat} {b : BT} {σ : MS} (h : PS T n E o q v b σ) (hp : b.2.1 ≤ 70000) (hK : tkK T n q = 26) : ∀ (m k : Nat) (N : Nat → Int32) (ρ : MS), m + k = E.2.1.length → N 5 = nI k → ρ.2 = σ.2 → (∀ j, ¬ (10 ≤ j ∧ j ≤ 12) → ρ.1 j = σ.1 j) → ((ρ.1 10 = 0 ∧ ∀ j, j < k → ¬ mIs σ q (tkE T n q - q) 22 23 j) ∨ (Fb (4, q) ρ ∧ ∃ j, j < E.2.1.length ∧ mIs σ q (tkE T n q - q) 22 23 j)) → Tm (fun f => x_paramsOf f 10 N ρ) (fun r => r.2.2 = σ.2 ∧ (∀ j, ¬ (10 ≤ j ∧ j ≤ 12) → r.2.1 j = σ.1 j) ∧ Fb (paF T n E q) r.2) := by
  have h0 := h
  obtain ⟨⟨⟨a1, a2⟩, a3, a4, a5, ⟨c1, c2, c3, c4, c5, c6⟩, a6⟩, ⟨d1, d2⟩, ⟨e1, e2, e3, e4, e5⟩, ⟨f1, f2, f3, f4, f5⟩, ⟨⟨g1, g2, g3⟩, ⟨g4, g5, g6⟩, ⟨g7, g8, g9⟩⟩, ⟨i1, i2, i3⟩⟩ := h
  have hE := tkE_b T n q c1
  have hrow := rows_mRow hp E.2.1 g3
  have hdup := dup_iff (c := 0) (f := q) (e := tkE T n q) a3 (by omega) e5 E.2.1 g3
  rw [Nat.sub_zero, List.take_length] at hdup
  intro m
  induction m with
  | zero =>
    intro k N ρ hk hN h2 hs hd
    refine Tm_suc (fun k => by rw [x_paramsOf]) ?_
    rw [hs 38 (by decide), g1, hN]
    refine Tm_ite (fun _ => ?_) (fun z => absurd ((n_le (by omega) (by omega)).mpr (by omega)) z)
    refine Tm_suc (fun k => by rw [x_paramsOf]) ?_
    refine Tm_ob (s_fault _ ρ) (fun r hr => ?_)
    have hr : r = (0, mFlt ρ 8 (ρ.1 8)) := hr
    subst hr
    obtain ⟨k1, k2, k3⟩ := fl_s h2 hs 8 (ρ.1 8)
    have hF : Fb (paF T n E q) (mFlt ρ 8 (ρ.1 8)) := by
      rcases hd with ⟨z1, z2⟩ | ⟨z1, j, z2, z3⟩
      · have no : (E.2.1.find? (fun x => decide (x.1 = tkS T n q))).isSome = false := by
          apply eq_false_of_ne_true
          intro z
          obtain ⟨j, j1, j2, j3⟩ := hdup.mp z
          exact z2 j (by omega) j3
        rw [paF_8 hK no]
        exact fl_F 8 (ρ.1 8) z1 rfl ((hs 8 (by decide)).trans c2)
      · rw [paF_4 hK (hdup.mpr ⟨j, Nat.zero_le _, z2, z3⟩)]
        exact fl_G _ _ z1
    refine Tm_mono (pm_b13 k3) (fun s hs => ?_)
    rw [hs]; exact ⟨k1, k2, hF⟩
  | succ m ih =>
    intro k N ρ hk hN h2 hs hd
    obtain ⟨pp, ll, r1, r2, r3⟩ := hrow k (by omega)
    have h22 : ρ.2.2 = σ.2.2 := by rw [h2]
    refine Tm_suc (fun k => by rw [x_paramsOf]) ?_
    rw [hs 38 (by decide), g1, hN]
    refine Tm_ite (fun z => absurd ((n_le (by omega) (by omega)).mp z) (by omega)) (fun _ => ?_)
    refine Tm_chk (n_in (by omega) (by omega)) ?_
    refine Tm_chk (n_in (by omega) (by omega)) ?_
    rw [n_cl (p := k) (by omega), h22, r1, r2]
    refine Tm_ob (s_isNamed (σ := ρ) (f := q) (e := tkE T n q) (p := pp) (l := ll) ((hs 8 (by decide)).trans c2) ((hs 9 (by decide)).trans c4) hE.1 (by omega) r3 _ rfl rfl) (fun r4 hr4 => ?_)
    obtain ⟨u, τ⟩ := r4
    obtain ⟨hr41, hr42⟩ := hr4
    have hr41 : τ = ρ := hr41
    subst hr41
    have hiff := mIs_iff (f := q) (m := tkE T n q - q) (show mRow σ 22 23 k pp ll from ⟨r1, r2, r3⟩)
    have hnm : mNm τ q (tkE T n q - q) pp ll ↔ mNm σ q (tkE T n q - q) pp ll := by unfold mNm; rw [h22]
    refine Tm_ite (fun z => ?_) (fun z => ?_)
    · refine Tm_suc (fun k => by rw [x_paramsOf]) ?_
      refine ih (k + 1) _ τ (by omega) (by rw [upd_same, hN, n_add1]) h2 hs (hd.imp (fun y => ⟨y.1, fun j hj => ?_⟩) id)
      by_cases e : j = k
      · subst e; exact fun w => hr42.mpr (hnm.mpr (hiff.mp w)) z
      · exact y.2 j (by omega)
    · refine Tm_ob (s_fault _ τ) (fun r6 hr6 => ?_)
      have hr6 : r6 = (0, mFlt τ 4 (τ.1 8)) := hr6
      subst hr6
      obtain ⟨k1, k2, k3⟩ := fl_s h2 hs 4 (τ.1 8)
      have hin : mIs σ q (tkE T n q - q) 22 23 k := hiff.mpr (hnm.mp (hr42.mp z))
      refine Tm_suc (fun k => by rw [x_paramsOf]) ?_
      refine ih (k + 1) _ _ (by omega) (by rw [upd_same, hN, n_add1]) k1 k2 (Or.inr ⟨?_, k, by omega, hin⟩)
      rcases hd with ⟨z1, _⟩ | ⟨z1, _⟩
      · exact fl_F 4 (τ.1 8) z1 rfl ((hs 8 (by decide)).trans c2)
      · exact fl_G _ _ z1
/-- a param is told: its mode, how many there are -/
theorem pm_14 {E1 : En} {c m q1 v1 : Nat} {b1 : BT} {ρ : MS} {N : Nat → Int32} {x : Fl PV6} (h : PS T n E1 o q1 v1 b1 ρ) (hp41 : p < 41) (hc : c < 8) (n1 : N 1 = nI p) (n3 : N 3 = nI c) (n4 : N 4 = nI m)
    (H : ∀ (ρ' : MS) (N' : Nat → Int32), PS T n (sP E1 p (c + 1)) o q1 v1 b1 ρ' → FrA p ρ ρ' → (∀ i, i < c → ρ'.2.2 19 (8 * p + i) = ρ.2.2 19 (8 * p + i)) → ρ'.2.2 19 (8 * p + c) = nI m → N' 1 = nI p → N' 2 = N 2 → N' 3 = nI (c + 1) → Tm (fun k => x_paramsOf k 1 N' ρ') (PoA T n o p ρ' x)) : Tm (fun k => x_paramsOf k 14 N ρ) (PoA T n o p ρ x) := by
  refine Tm_suc (fun k => by rw [x_paramsOf]) ?_
  refine Tm_ite (fun _ => ?_) (fun z => absurd (PS_ok h) z)
  rw [n1, n3, n4, n_mul8 (by omega) (by omega)]
  refine Tm_chk (n_in (by omega) (by omega)) ?_
  rw [n_cl (p := 8 * p + c) (by omega)]
  show Tm (fun k => x_paramsOf k 15 N (mAr ρ 19 (8 * p + c) (nI m))) _
  refine Tm_suc (fun k => by rw [x_paramsOf]) ?_
  rw [n1, n3, n_add1]
  refine Tm_chk (n_in (by omega) (by omega)) ?_
  rw [n_cl (p := p) (by omega)]
  show Tm (fun k => x_paramsOf k 16 (upd N 3 (nI (c + 1))) (mAr (mAr ρ 19 (8 * p + c) (nI m)) 18 p (nI (c + 1)))) _
  refine Tm_suc (fun k => by rw [x_paramsOf]) ?_
  have hF : FrA p ρ (mAr (mAr ρ 19 (8 * p + c) (nI m)) 18 p (nI (c + 1))) := FrA_tr (FrA_19 (by omega) _) (FrA_18 (by omega))
  have h19 : (mAr (mAr ρ 19 (8 * p + c) (nI m)) 18 p (nI (c + 1))).2.2 19 = upd (ρ.2.2 19) (8 * p + c) (nI m) := rfl
  refine Tm_mono (H _ _ (PS_par (PS_ar h (Or.inr rfl)) (by omega)) hF (fun i hi => ?_) ?_ ?_ ?_ upd_same) (fun s hs => PoA_tr hF hs)
  · rw [h19, upd_other (by omega)]
  · rw [h19, upd_same]
  · rw [upd_other (by decide)]; exact n1
  · rw [upd_other (by decide)]
theorem p_pm {pr : Bool} (hp41 : p < 41) : ∀ (f : Nat) (E : En) (c : Nat) (md : Nat → Nat) (q v : Nat) (b : BT) (x : Fl PV6), GPm T n pr p f E c md q v b = some x → ∀ (σ : MS) (L : Nat → Int32), PS T n E o q v b σ → b.2.1 + (n - q) ≤ 70000 → c ≤ 8 → (∀ i, i < c → σ.2.2 19 (8 * p + i) = nI (md i) ∧ md i ≤ 2) → L 1 = nI p → (L 2 = 0 ↔ pr = false) → L 3 = nI c → E.2.2.2.1 = p + 1 → Tm (fun k => x_paramsOf k 1 L σ) (PoA T n o p σ x)
  | 0, E, c, md, q, v, b, x, hG, σ, L, h, hp, hc, hm, l1, l2, l3, hw => by cases hG
  | f + 1, E, c, md, q, v, b, x, hG, σ, L, h, hp, hc, hm, l1, l2, l3, hw => by
    have ih := p_pm (pr := pr) hp41 f
    rw [GPm] at hG
    -- at a name
    have itJ : ∀ (m q1 : Nat) (ρ : MS) (N : Nat → Int32), m ≤ 2 → gPJ T n E c m q1 v b (fun m r => GPm T n pr p f (sP r.2.1 p (c + 1)) (c + 1) (updN md c m) r.1 r.2.2.1 r.2.2.2) = some x → PS T n E o q1 v b ρ → b.2.1 + (n - q1) ≤ 70000 → (∀ i, i < c → ρ.2.2 19 (8 * p + i) = nI (md i) ∧ md i ≤ 2) → N 1 = nI p → (N 2 = 0 ↔ pr = false) → N 3 = nI c → N 4 = nI m → Tm (fun k => x_paramsOf k 9 N ρ) (PoA T n o p ρ x) := by
      intro m q1 ρ N hm2 hJ hS hp1 hmd n1 n2 n3 n4
      have hN := tkN_b T n q1 (PS_q hS).1
      have hEb := tkE_b T n q1 (PS_q hS).1
      unfold gPJ at hJ
      refine Tm_suc (fun k => by rw [x_paramsOf]) ?_
      refine Tm_ob (v_wantName (w := p + 1) hS _) (fun r hr => ?_)
      rcases hr with ⟨x1, x2, x3⟩ | ⟨x1, x2⟩
      · have hx : x = Sum.inl (2, q1) := by
          by_cases c8 : c = 8
          · rw [if_pos c8, paF_2 x1] at hJ; exact (Option.some.inj hJ).symm
          · rw [if_neg c8] at hJ
            rcases gTl_any hJ with ⟨_, hx⟩ | ⟨y, _⟩
            · rw [tvF_2 x1] at hx; exact hx
            · exact absurd y.1.1 x1
        subst hx
        refine Tm_ite (fun z => absurd z x2.1) (fun _ => ?_)
        exact PoA_b x2 (FrA_of x3) (pm_b13 x2.1)
      · rw [x2]
        refine Tm_ite (fun _ => ?_) (fun z => absurd (PS_ok hS) z)
        rw [n3]
        by_cases c8 : c = 8
        · rw [if_pos c8] at hJ
          obtain rfl := Option.some.inj hJ
          refine Tm_ite (fun _ => ?_) (fun z => absurd (by rw [c8]; rfl) z)
          refine Tm_mono (pm_10 hS (by omega) x1 _ 0 _ ρ rfl upd_same rfl (fun _ _ => rfl) (Or.inl ⟨PS_ok hS, fun j hj => absurd hj (Nat.not_lt_zero j)⟩)) (fun s hs => ?_)
          refine ⟨⟨b.1, hs.2.2.1, (hs.2.1 22 (by decide)).trans (PS_m hS), hs.2.2.2⟩, FrA_of (FrV_s2 (fun j hj => hs.2.1 j (by omega)) hs.1)⟩
        · rw [if_neg c8] at hJ
          refine Tm_ite (fun z => absurd ((n_eq (q := 8) (by omega) (by decide)).mp z) c8) (fun _ => ?_)
          refine Tm_suc (fun k => by rw [x_paramsOf]) ?_
          refine Tm_ite (fun _ => ?_) (fun z => absurd (PS_ok hS) z)
          refine Tm_ob (p_tellLocal hS hp1 upd_same) (fun r3 hr3 => ?_)
          obtain ⟨hV3, hr3⟩ := hr3
          rw [hw] at hV3
          rcases hr3 with ⟨y, hB⟩ | ⟨y, hS3⟩
          · have hx : x = Sum.inl (tvF T n E q1 v) := by
              rcases gTl_any hJ with ⟨_, hx⟩ | ⟨u, _⟩
              · exact hx
              · exact absurd u y
            subst hx
            exact PoA_b hB (FrA_of hV3) (pm_b14 hB.1)
          · rcases gTl_any hJ with ⟨u, _⟩ | ⟨_, hx⟩
            · exact absurd y u
            · refine Tm_mono (pm_14 hS3 hp41 (by omega) n1 n3 n4 (fun ρ' N' hS4 hF4 hk hk2 m1 m2 m3 => ?_)) (fun s hs => PoA_tr (FrA_of hV3) hs)
              refine ih _ _ _ _ _ _ _ hx ρ' N' hS4 ?_ (by omega) (fun i hi => ?_) m1 (by rw [m2]; exact n2) m3 hw
              · show b.2.1 + (tkE T n q1 - q1) + (n - tkN T n q1) ≤ 70000
                omega
              · by_cases z : i = c
                · subst z; rw [hk2, updN_s]; exact ⟨rfl, hm2⟩
                · rw [hk i (by omega), updN_o z, hV3.2.2.1 19 (by decide)]; exact hmd i (by omega)
    -- at the beginning of a param
    have itI : ∀ (q1 : Nat) (ρ : MS) (N : Nat → Int32), gPI T n pr E c q1 v b (fun m r => GPm T n pr p f (sP r.2.1 p (c + 1)) (c + 1) (updN md c m) r.1 r.2.2.1 r.2.2.2) = some x → PS T n E o q1 v b ρ → b.2.1 + (n - q1) ≤ 70000 → (∀ i, i < c → ρ.2.2 19 (8 * p + i) = nI (md i) ∧ md i ≤ 2) → N 1 = nI p → (N 2 = 0 ↔ pr = false) → N 3 = nI c → Tm (fun k => x_paramsOf k 4 N ρ) (PoA T n o p ρ x) := by
      intro q1 ρ N hI hS hp1 hmd n1 n2 n3
      have hN := tkN_b T n q1 (PS_q hS).1
      unfold gPI at hI
      have u1 : ∀ z : Int32, upd N 4 z 1 = nI p := fun z => by rw [upd_other (by decide)]; exact n1
      have u2 : ∀ z : Int32, (upd N 4 z 2 = 0 ↔ pr = false) := fun z => by rw [upd_other (by decide)]; exact n2
      have u3 : ∀ z : Int32, upd N 4 z 3 = nI c := fun z => by rw [upd_other (by decide)]; exact n3
      refine Tm_suc (fun k => by rw [x_paramsOf]) ?_
      refine Tm_ite (fun _ => ?_) (fun z => absurd (PS_ok hS) z)
      refine Tm_ite (fun z => ?_) (fun z => ?_)
      · rw [if_neg (fun y => by rw [n2.mp z] at y; exact absurd y.1 (by decide))] at hI
        exact itJ 0 q1 ρ _ (by decide) hI hS hp1 hmd (u1 _) (u2 _) (u3 _) upd_same
      · have hpr : pr = true := by
          cases pr with
          | false => exact absurd (n2.mpr rfl) z
          | true => rfl
        -- none of the words
        have no : ¬ (tkK T n q1 = 35 ∨ tkK T n q1 = 36 ∨ tkK T n q1 = 37) → Tm (fun k => x_paramsOf k 9 (upd N 4 0) ρ) (PoA T n o p ρ x) := fun y => by
          rw [if_neg (fun w => y w.2)] at hI
          exact itJ 0 q1 ρ _ (by decide) hI hS hp1 hmd (u1 _) (u2 _) (u3 _) upd_same
        -- one of them
        have yes : (tkK T n q1 = 35 ∨ tkK T n q1 = 36 ∨ tkK T n q1 = 37) → Tm (fun k => x_paramsOf k 5 (upd N 4 0) ρ) (PoA T n o p ρ x) := fun y => by
          rw [if_pos ⟨hpr, y⟩] at hI
          have hw : ρ.1 7 = nI (tkK T n q1 - 32) := (cur_what (PS_cur hS)).2.1 (by omega)
          have l8 : ∀ M : Nat → Int32, M 1 = nI p → (M 2 = 0 ↔ pr = false) → M 3 = nI c → M 100 = nI (tkK T n q1 - 35) → Tm (fun k => x_paramsOf k 8 M ρ) (PoA T n o p ρ x) := by
            intro M m1 m2 m3 m4
            refine Tm_suc (fun k => by rw [x_paramsOf]) ?_
            refine Tm_ob (v_take (w := p + 1) hS _) (fun r hr => ?_)
            rcases pT_any hI with ⟨z, rfl⟩ | ⟨z, hx⟩
            · rcases hr.2 with ⟨_, hB⟩ | ⟨y, _⟩
              · exact PoA_b hB (FrA_of hr.1) (pm_b9 hB.1)
              · exact absurd z y
            · rcases hr.2 with ⟨y, _⟩ | ⟨_, hS2⟩
              · exact absurd y z
              · refine Tm_mono (itJ (tkK T n q1 - 35) _ r.2 _ (by omega) hx hS2 (by omega) (fun i hi => ?_) ?_ ?_ ?_ ?_) (fun s hs => PoA_tr (FrA_of hr.1) hs)
                · rw [hr.1.2.2.1 19 (by decide)]; exact hmd i hi
                · rw [upd_other (by decide)]; exact m1
                · rw [upd_other (by decide)]; exact m2
                · rw [upd_other (by decide)]; exact m3
                · rw [upd_same]; exact m4
          have v1 : ∀ z : Int32, upd (upd N 4 0) 100 z 1 = nI p := fun z => by rw [upd_other (by decide)]; exact u1 _
          have v2 : ∀ z : Int32, (upd (upd N 4 0) 100 z 2 = 0 ↔ pr = false) := fun z => by rw [upd_other (by decide)]; exact u2 _
          have v3 : ∀ z : Int32, upd (upd N 4 0) 100 z 3 = nI c := fun z => by rw [upd_other (by decide)]; exact u3 _
          refine Tm_suc (fun k => by rw [x_paramsOf]) ?_
          rw [hw]
          refine Tm_ite (fun z => ?_) (fun z => ?_)
          · have z := (n_eq (q := 4) (by omega) (by decide)).mp z
            refine l8 _ (v1 _) (v2 _) (v3 _) (by rw [upd_same, show tkK T n q1 - 35 = 1 by omega]; rfl)
          · refine Tm_suc (fun k => by rw [x_paramsOf]) ?_
            rw [hw]
            refine Tm_ite (fun z2 => ?_) (fun z2 => ?_)
            · have z2 := (n_eq (q := 5) (by omega) (by decide)).mp z2
              refine l8 _ (v1 _) (v2 _) (v3 _) (by rw [upd_same, show tkK T n q1 - 35 = 2 by omega]; rfl)
            · refine Tm_suc (fun k => by rw [x_paramsOf]) ?_
              have z3 : ¬ tkK T n q1 - 32 = 4 := fun w => z (by rw [w]; rfl)
              have z4 : ¬ tkK T n q1 - 32 = 5 := fun w => z2 (by rw [w]; rfl)
              refine l8 _ (v1 _) (v2 _) (v3 _) (by rw [upd_same, show tkK T n q1 - 35 = 0 by omega]; rfl)
        refine Tm_ob (p_word hS (s := 3) (by decide) upd_same) (fun r hr => ?_)
        obtain ⟨a, τ⟩ := r
        obtain ⟨rfl, hr⟩ := hr
        refine Tm_ite (fun y => ?_) (fun y => yes (Or.inl (hr.mp y)))
        refine Tm_ob (p_word hS (s := 4) (by decide) upd_same) (fun r hr2 => ?_)
        obtain ⟨a2, τ2⟩ := r
        obtain ⟨rfl, hr2⟩ := hr2
        refine Tm_ite (fun y2 => ?_) (fun y2 => yes (Or.inr (Or.inl (hr2.mp y2))))
        refine Tm_ob (p_word hS (s := 5) (by decide) upd_same) (fun r hr3 => ?_)
        obtain ⟨a3, τ3⟩ := r
        obtain ⟨rfl, hr3⟩ := hr3
        refine Tm_ite (fun y3 => ?_) (fun y3 => yes (Or.inr (Or.inr (hr3.mp y3))))
        refine no (fun w => ?_)
        rcases w with w | w | w
        · exact hr.mpr w y
        · exact hr2.mpr w y2
        · exact hr3.mpr w y3
    -- behind the last one
    have l17 : (if tkK T n q = 7 then some (Sum.inr (q, E, c, md, v, b)) else some (Sum.inl (2, q))) = some x → Tm (fun k => x_paramsOf k 17 L σ) (PoA T n o p σ x) := fun hx => by
      refine Tm_suc (fun k => by rw [x_paramsOf]) ?_
      refine Tm_ite (fun _ => ?_) (fun z => absurd (PS_ok h) z)
      refine Tm_ob (p_sign h (s := 7) (by decide) (by decide) upd_same) (fun r hr => ?_)
      obtain ⟨a, τ⟩ := r
      obtain ⟨rfl, hr⟩ := hr
      refine Tm_ite (fun y => ?_) (fun y => ?_)
      · rw [if_neg (fun w => hr.mpr w y)] at hx
        obtain rfl := Option.some.inj hx
        refine Tm_ob (s_cannot _ τ) (fun r hr => ?_)
        subst hr
        refine Tm_suc (fun k => by rw [x_paramsOf]) ?_
        exact Tm_some ⟨⟨_, (flt_b (M := 0) (P := 0) (w := 0) (yf := (2, q)) (PS_ok h) (PS_m h) (x := 2) (y := τ.1 8) (by rfl) (by exact PS_8 h)).1⟩, FrA_of (FrV_flt _ _)⟩
      · rw [if_pos (hr.mp y)] at hx
        obtain rfl := Option.some.inj hx
        refine Tm_suc (fun k => by rw [x_paramsOf]) ?_
        exact Tm_some ⟨h, FrA_rf, hc, hm⟩
    refine Tm_suc (fun k => by rw [x_paramsOf]) ?_
    refine Tm_ite (fun _ => ?_) (fun z => absurd (PS_ok h) z)
    rw [l3]
    by_cases c0 : c = 0
    · rw [if_pos c0] at hG
      refine Tm_ite (fun z => absurd ((n_lt (p := 0) (by decide) (by omega)).mp z) (by omega)) (fun _ => ?_)
      refine Tm_ob (p_sign h (s := 7) (by decide) (by decide) upd_same) (fun r hr => ?_)
      obtain ⟨a, τ⟩ := r
      obtain ⟨rfl, hr⟩ := hr
      refine Tm_ite (fun y => ?_) (fun y => ?_)
      · rw [if_neg (fun w => hr.mpr w y)] at hG
        refine Tm_suc (fun k => by rw [x_paramsOf]) ?_
        rw [l3]
        refine Tm_ite (fun _ => ?_) (fun z => absurd ((n_eq0 (by omega)).mpr c0) z)
        refine Tm_suc (fun k => by rw [x_paramsOf]) ?_
        rw [l3]
        refine Tm_ite (fun _ => ?_) (fun z => absurd ((n_le0 (by omega)).mpr c0) z)
        exact itI q τ L hG h hp hm l1 l2 l3
      · rw [if_pos (hr.mp y)] at hG
        exact l17 (by rw [if_pos (hr.mp y)]; exact hG)
    · rw [if_neg c0] at hG
      refine Tm_ite (fun _ => ?_) (fun z => absurd ((n_lt (p := 0) (by decide) (by omega)).mpr (by omega)) z)
      refine Tm_suc (fun k => by rw [x_paramsOf]) ?_
      rw [l3]
      refine Tm_ite (fun z => absurd ((n_eq0 (by omega)).mp z) c0) (fun _ => ?_)
      refine Tm_ob (p_sign h (s := 12) (by decide) (by decide) upd_same) (fun r hr => ?_)
      obtain ⟨a, τ⟩ := r
      obtain ⟨rfl, hr⟩ := hr
      refine Tm_ite (fun y => ?_) (fun y => ?_)
      · rw [if_neg (fun w => hr.mpr w y)] at hG
        exact l17 hG
      · rw [if_pos (hr.mp y)] at hG
        refine Tm_suc (fun k => by rw [x_paramsOf]) ?_
        rw [l3]
        refine Tm_ite (fun z => absurd ((n_le0 (by omega)).mp z) c0) (fun _ => ?_)
        have hN := tkN_b T n q (PS_q h).1
        refine Tm_ob (v_take (w := p + 1) h _) (fun r hr => ?_)
        rcases pT_any hG with ⟨z, rfl⟩ | ⟨z, hx⟩
        · rcases hr.2 with ⟨_, hB⟩ | ⟨y, _⟩
          · exact PoA_b hB (FrA_of hr.1) (pm_b4 hB.1)
          · exact absurd z y
        · rcases hr.2 with ⟨y, _⟩ | ⟨_, hS2⟩
          · exact absurd y z
          · exact Tm_mono (itI _ r.2 L hx hS2 (by omega) (fun i hi => by rw [hr.1.2.2.1 19 (by decide)]; exact hm i hi) l1 l2 l3) (fun s hs => PoA_tr (FrA_of hr.1) hs)
end PML
end JnS84
section JnS85
/-! Funcs and procs: the grammar; units are entered and left. -/
def fu (n : Nat) : Nat := 40 * n + 40
/-- rows of variables of a proc -/
def GVs (T : Nat → Int32) (n : Nat) : Nat → En → Nat → Nat → BT → Option (Fl DV)
  | 0, _, _, _, _ => none
  | f + 1, E, q, v, b => if tkK T n q = 32 then pb (pT T n q (fun q1 => GVr T n (fu n) E q1 v b)) (fun r => GVs T n f r.2.1 r.1 r.2.2.1 r.2.2.2) else some (Sum.inr (q, E, v, b))
/-- next token, the first node and how many slots, what is laid, statements -/
abbrev BD := Nat × (Int32 × Nat) × BT × SB
def gBod (T : Nat → Int32) (n : Nat) (pr : Bool) (MD : Nat → Nat → Nat) (E : En) (q v : Nat) (b : BT) (s : SB) : Option (Fl BD) :=
  if pr = true then pW T n 13 q (fun q1 => pb (GVs T n (fu n) E q1 v b) (fun r => pb (GS T n MD (fu n) 0 r.2.1 0 0 r.1 r.2.2.1 (-1) 0 0 r.2.2.2 s) (fun t => pW T n 38 t.1 (fun q2 => pW T n 13 q2 (fun q3 => some (Sum.inr (q3, (hd t.2.2.2.1, t.2.1), t.2.2.2.2.1, t.2.2.2.2.2)))))))
  else pW T n 17 q (fun q1 => pb (G T n (fu n) 0 E 0 q1 v 0 0 0 0 b) (fun t => pW T n 13 t.1 (fun q2 => some (Sum.inr (q2, (nI t.2.2.2.1, t.2.1), t.2.2.2.2.1, s)))))
/-- next token, what is around, modes, callables, procs, variables, what is laid, statements, first nodes -/
abbrev PRG := Nat × En × (Nat → Nat → Nat) × Nat × Nat × Nat × BT × SB × (Nat → Int32)
def bRes (cn : Nat → Int32) (b : BT) : BT := (b.1, b.2.1, b.2.2.1, b.2.2.2.1, fun i => if i < 60 then cn i else b.2.2.2.2 i)
abbrev eC1 (T : Nat → Int32) (n : Nat) (pr : Bool) (E : En) (c q : Nat) (b : BT) : En := (E.1 ++ [(tkS T n q, b.2.1, (if pr = true then 3 else 2), c)], [], [], c + 1, pr, pr, updN E.2.2.2.2.2.2 c 0)
abbrev nmC (T : Nat → Int32) (n : Nat) (E : En) (c q : Nat) : Prop := tkK T n q = 26 ∧ (fd E (tkS T n q)).1 = 0 ∧ ¬ c = 40
/-- the fault where a func or proc is told -/
def caF (T : Nat → Int32) (n : Nat) (E : En) (q : Nat) : Nat × Nat := if tkK T n q = 26 then (if (fd E (tkS T n q)).1 = 0 then (8, q) else (4, q)) else (2, q)
theorem caF_2 {T : Nat → Int32} {n : Nat} {E : En} {q : Nat} (h : ¬ tkK T n q = 26) : caF T n E q = (2, q) := if_neg h
theorem caF_4 {T : Nat → Int32} {n : Nat} {E : En} {q : Nat} (h : tkK T n q = 26) (h2 : ¬ (fd E (tkS T n q)).1 = 0) : caF T n E q = (4, q) := by unfold caF; rw [if_pos h, if_neg h2]
theorem caF_8 {T : Nat → Int32} {n : Nat} {E : En} {q : Nat} (h : tkK T n q = 26) (h2 : (fd E (tkS T n q)).1 = 0) : caF T n E q = (8, q) := by unfold caF; rw [if_pos h, if_pos h2]
/-- of each func or proc: its first node, how many slots (from 100 on), which of them count (from 1000 on) -/
def upF (F : Nat → Int32) (c : Nat) (e : Int32 × Nat) (fl : Nat → Int32) (j : Nat) : Int32 := if j = c then e.1 else if j = 100 + c then nI e.2 else if 1060 + 60 * c ≤ j ∧ j < 1120 + 60 * c then fl (j - 1000) else F j
theorem upF_c {F : Nat → Int32} {c : Nat} {e : Int32 × Nat} {fl : Nat → Int32} : upF F c e fl c = e.1 := if_pos rfl
theorem upF_h {F : Nat → Int32} {c : Nat} {e : Int32 × Nat} {fl : Nat → Int32} : upF F c e fl (100 + c) = nI e.2 := by
  unfold upF; rw [if_neg (by omega), if_pos rfl]
theorem upF_s {F : Nat → Int32} {c s : Nat} {e : Int32 × Nat} {fl : Nat → Int32} (hc : c < 40) (hs : s < 60) : upF F c e fl (1000 + (60 * (1 + c) + s)) = fl (60 * (1 + c) + s) := by
  unfold upF; rw [if_neg (by omega), if_neg (by omega), if_pos (by omega), Nat.add_sub_cancel_left]
theorem upF_o {F : Nat → Int32} {c j : Nat} {e : Int32 × Nat} {fl : Nat → Int32} (h : ¬ (j = c ∨ j = 100 + c ∨ (1060 + 60 * c ≤ j ∧ j < 1120 + 60 * c))) : upF F c e fl j = F j := by
  unfold upF; rw [if_neg (by omega), if_neg (by omega), if_neg (by omega)]
/-- the unit of the i-th func or proc: slots, and which count -/
def UnO (σ : MS) (F : Nat → Int32) (i : Nat) : Prop := ∃ h, h ≤ 60 ∧ F (100 + i) = nI h ∧ σ.2.2 21 (1 + i) = nI h ∧ ∀ s, s < h → σ.2.2 20 (60 * (1 + i) + s) = F (1000 + (60 * (1 + i) + s))
theorem UnO_fr {σ τ : MS} {F F' : Nat → Int32} {i : Nat} (h : UnO σ F i) (h21 : τ.2.2 21 (1 + i) = σ.2.2 21 (1 + i)) (h20 : ∀ s, s < 60 → τ.2.2 20 (60 * (1 + i) + s) = σ.2.2 20 (60 * (1 + i) + s)) (hF : F' (100 + i) = F (100 + i)) (hG : ∀ s, s < 60 → F' (1000 + (60 * (1 + i) + s)) = F (1000 + (60 * (1 + i) + s))) : UnO τ F' i := by
  obtain ⟨h, a1, a2, a3, a4⟩ := h
  exact ⟨h, a1, hF.trans a2, h21.trans a3, fun s hs => by rw [h20 s (by omega), hG s (by omega)]; exact a4 s hs⟩
/-- the modes of the i-th func or proc -/
def MoO (σ : MS) (E : En) (MD : Nat → Nat → Nat) (i : Nat) : Prop := E.2.2.2.2.2.2 i ≤ 8 ∧ ∀ j, j < E.2.2.2.2.2.2 i → σ.2.2 19 (8 * i + j) = nI (MD i j) ∧ MD i j ≤ 2
theorem MoO_fr {σ τ : MS} {E E' : En} {MD MD' : Nat → Nat → Nat} {i : Nat} (h : MoO σ E MD i) (hr : ∀ j, j < 8 → τ.2.2 19 (8 * i + j) = σ.2.2 19 (8 * i + j)) (hE : E'.2.2.2.2.2.2 i = E.2.2.2.2.2.2 i) (hM : MD' i = MD i) : MoO τ E' MD' i := by
  obtain ⟨h1, h2⟩ := h
  unfold MoO
  rw [hE, hM]
  exact ⟨h1, fun j hj => by rw [hr j (by omega)]; exact h2 j hj⟩
/-- from the ( on -/
def gCb (T : Nat → Int32) (n : Nat) (pr : Bool) (E : En) (MD : Nat → Nat → Nat) (c pc v : Nat) (b b1 : BT) (s : SB) (F : Nat → Int32) (E1 : En) (q : Nat) : Option (Fl PRG) :=
  pT T n q (fun q3 => pb (GPm T n pr c (fu n) E1 0 (fun _ => 0) q3 0 b1) (fun a => pT T n a.1 (fun q5 => pb (gBod T n pr (fun p => if p = c then a.2.2.2.1 else MD p) a.2.1 q5 a.2.2.2.2.1 a.2.2.2.2.2 s) (fun z =>
    some (Sum.inr (z.1, (a.2.1.1, [], [], 0, true, true, a.2.1.2.2.2.2.2.2), (fun p => if p = c then a.2.2.2.1 else MD p), c + 1, (if pr = true then pc + 1 else pc), v, bRes b.2.2.2.2 z.2.2.1, z.2.2.2, upF F c z.2.1 z.2.2.1.2.2.2.2))))))
def gCal (T : Nat → Int32) (n : Nat) (pr : Bool) (E : En) (MD : Nat → Nat → Nat) (c pc v : Nat) (b : BT) (s : SB) (F : Nat → Int32) (q : Nat) : Option (Fl PRG) :=
  pT T n q (fun q1 => if nmC T n E c q1 then pT T n q1 (fun q2 => if tkK T n q2 = 6 then gCb T n pr E MD c pc v b (bKeep b T q1 (tkE T n q1 - q1)) s F (eC1 T n pr E c q1 b) q2 else some (Sum.inl (2, q2))) else some (Sum.inl (caF T n E q1)))
/-- what the reading of a func or proc leaves as it is -/
def FrU (c : Nat) (σ σ' : MS) : Prop :=
  (∀ j, ¬ ((5 ≤ j ∧ j ≤ 13) ∨ j = 22 ∨ j = 24 ∨ j = 25 ∨ j = 38 ∨ (44 ≤ j ∧ j ≤ 48) ∨ j = 52) → σ'.1 j = σ.1 j) ∧ σ'.2.1 = σ.2.1 ∧
  (∀ j, ¬ ((4 ≤ j ∧ j ≤ 16) ∨ (18 ≤ j ∧ j ≤ 27)) → σ'.2.2 j = σ.2.2 j) ∧
  (∀ i, i ≠ c → σ'.2.2 18 i = σ.2.2 18 i) ∧ (∀ i, i < 8 * c ∨ 8 * c + 8 ≤ i → σ'.2.2 19 i = σ.2.2 19 i) ∧ (∀ i, i ≠ c + 1 → σ'.2.2 21 i = σ.2.2 21 i) ∧ (∀ i, i < 60 * (c + 1) ∨ 60 * (c + 1) + 60 ≤ i → σ'.2.2 20 i = σ.2.2 20 i) ∧ ((∃ k, k ≤ 8 ∧ σ.2.2 18 c = nI k) → ∃ k, k ≤ 8 ∧ σ'.2.2 18 c = nI k)
section FRU
variable {c M P : Nat} {σ τ υ : MS}
theorem FrU_rf : FrU c σ σ := ⟨fun _ _ => rfl, rfl, fun _ _ => rfl, fun _ _ => rfl, fun _ _ => rfl, fun _ _ => rfl, fun _ _ => rfl, fun z => z⟩
theorem FrU_tr (h : FrU c σ τ) (g : FrU c τ υ) : FrU c σ υ := ⟨fun j hj => (g.1 j hj).trans (h.1 j hj), g.2.1.trans h.2.1, fun j hj => (g.2.2.1 j hj).trans (h.2.2.1 j hj), fun j hj => (g.2.2.2.1 j hj).trans (h.2.2.2.1 j hj), fun j hj => (g.2.2.2.2.1 j hj).trans (h.2.2.2.2.1 j hj), fun j hj => (g.2.2.2.2.2.1 j hj).trans (h.2.2.2.2.2.1 j hj), fun j hj => (g.2.2.2.2.2.2.1 j hj).trans (h.2.2.2.2.2.2.1 j hj), fun z => g.2.2.2.2.2.2.2 (h.2.2.2.2.2.2.2 z)⟩
theorem FrU_A (h : FrA c σ τ) : FrU c σ τ := ⟨fun j hj => h.1 j (by omega), h.2.1, fun j hj => h.2.2.1 j (by omega), h.2.2.2.1, h.2.2.2.2.1, h.2.2.2.2.2.1, h.2.2.2.2.2.2.1, h.2.2.2.2.2.2.2⟩
theorem FrU_V (h : FrV (c + 1) σ τ) : FrU c σ τ := FrU_A (FrA_of h)
theorem FrU_Z (h : FrZ M P (c + 1) σ τ) : FrU c σ τ := ⟨fun j hj => h.1 j (by omega), h.2.1, fun j hj => h.2.2.1 j (by omega), fun i _ => by rw [h.2.2.1 18 (by decide)], fun i _ => by rw [h.2.2.1 19 (by decide)], h.2.2.2.2.2.1, h.2.2.2.2.2.2, fun z => by rw [h.2.2.1 18 (by decide)]; exact z⟩
theorem FrU_M (h : FrM M P (c + 1) σ τ) : FrU c σ τ := FrU_Z (FrZ_of h)
theorem FrU_opn (x : Int32) : FrU c σ (mOpn σ x) := FrU_M (M := 0) (P := 0) (FrM_opn x)
/-- the unit of a func or proc is entered -/
def mUn (σ : MS) (c : Nat) (x y : Int32) : MS := (upd (upd (upd (upd (upd (upd σ.1 30 (nI (c + 1))) 31 x) 37 (nI (c + 1))) 38 0) 42 y) 43 y, σ.2.1, updG (updG σ.2.2 21 (upd (σ.2.2 21) (c + 1) 0)) 18 (upd (σ.2.2 18) c 0))
theorem mUn_s {x y : Int32} {j : Nat} (h : ¬ (j = 30 ∨ j = 31 ∨ j = 37 ∨ j = 38 ∨ j = 42 ∨ j = 43)) : (mUn σ c x y).1 j = σ.1 j := by
  show upd (upd (upd (upd (upd (upd σ.1 30 _) 31 x) 37 _) 38 0) 42 y) 43 y j = _
  rw [upd_other (by omega), upd_other (by omega), upd_other (by omega), upd_other (by omega), upd_other (by omega), upd_other (by omega)]
theorem mUn_o {x y : Int32} {j : Nat} (h : ¬ (j = 18 ∨ j = 21)) : (mUn σ c x y).2.2 j = σ.2.2 j := by
  show updG (updG σ.2.2 21 _) 18 _ j = _
  rw [updG_other (by omega), updG_other (by omega)]
theorem mUn_18 {x y : Int32} : (mUn σ c x y).2.2 18 = upd (σ.2.2 18) c 0 := rfl
theorem mUn_21 {x y : Int32} : (mUn σ c x y).2.2 21 = upd (σ.2.2 21) (c + 1) 0 := rfl
theorem PS_un {T : Nat → Int32} {n : Nat} {E : En} {o q v : Nat} {b : BT} {pr : Bool} {x y : Int32} (h : PS T n E o q v b σ) (hc : c ≤ 40) (hy : y = 0 ↔ pr = false) (hr : E.2.2.1 = []) : PS T n (E.1, [], [], c + 1, pr, pr, updN E.2.2.2.2.2.2 c 0) o q 0 b (mUn σ c x y) := by
  obtain ⟨s1, s2, s3, s4, ⟨⟨g1, g2, g3⟩, ⟨g4, g5, g6⟩, ⟨g7, g8, g9⟩⟩, s6⟩ := h
  refine ⟨PT_c (σ := σ) (fun j _ _ => mUn_s (by omega)) (mUn_o (by decide)) (mUn_o (by decide)) s1, ⟨(mUn_s (by decide)).trans s2.1, s2.2⟩, PB_c (σ := σ) (mUn_s (by decide)) (mUn_s (by decide)) (fun j hj => mUn_o (by omega)) s3, ⟨rfl, by show c + 1 ≤ 42; omega, ?_, by decide, fun i hi => absurd hi (Nat.not_lt_zero i)⟩, ⟨⟨rfl, Nat.le_refl _, trivial⟩, ⟨?_, Nat.le_refl _, trivial⟩, ⟨(mUn_s (by decide)).trans g7, g8, ?_⟩⟩, ⟨hy, hy, fun z hz hn => ?_⟩⟩
  · show (mUn σ c x y).2.2 21 (c + 1) = nI 0
    rw [mUn_21, upd_same]; rfl
  · refine (mUn_s (by decide)).trans (g4.trans ?_)
    rw [hr]
  · rw [mUn_o (by decide), mUn_o (by decide), mUn_o (by decide), mUn_o (by decide)]; exact g9
  · obtain ⟨a1, a2, a3⟩ := s6.2.2 z hz hn
    show z.2.2.2 < 41 ∧ (mUn σ c x y).2.2 18 z.2.2.2 = nI (updN E.2.2.2.2.2.2 c 0 z.2.2.2) ∧ updN E.2.2.2.2.2.2 c 0 z.2.2.2 ≤ 8
    rw [mUn_18]
    by_cases e : z.2.2.2 = c
    · rw [e, upd_same, updN_s]; exact ⟨by omega, rfl, by decide⟩
    · rw [upd_other e, updN_o e]; exact ⟨a1, a2, a3⟩
/-- it is left -/
def mOut (σ : MS) : MS := (upd (upd (upd (upd σ.1 37 0) 38 0) 42 1) 43 1, σ.2.1, σ.2.2)
theorem mOut_s {j : Nat} (h : ¬ (j = 37 ∨ j = 38 ∨ j = 42 ∨ j = 43)) : (mOut σ).1 j = σ.1 j := by
  show upd (upd (upd (upd σ.1 37 0) 38 0) 42 1) 43 1 j = _
  rw [upd_other (by omega), upd_other (by omega), upd_other (by omega), upd_other (by omega)]
theorem PS_out {T : Nat → Int32} {n : Nat} {E : En} {o q v v0 : Nat} {b : BT} {cn : Nat → Int32} (h : PS T n E o q v b σ) (hr : E.2.2.1 = []) (h21 : σ.2.2 21 0 = nI v0) (hv : v0 ≤ 60) (h20 : ∀ i, i < v0 → σ.2.2 20 i = cn i) : PS T n (E.1, [], [], 0, true, true, E.2.2.2.2.2.2) o q v0 (bRes cn b) (mOut σ) := by
  obtain ⟨s1, s2, s3, s4, ⟨⟨g1, g2, g3⟩, ⟨g4, g5, g6⟩, ⟨g7, g8, g9⟩⟩, s6⟩ := h
  refine ⟨PT_c (σ := σ) (fun j _ _ => mOut_s (by omega)) rfl rfl s1, ⟨(mOut_s (by decide)).trans s2.1, s2.2⟩, ⟨(mOut_s (by decide)).trans s3.1, s3.2.1, (mOut_s (by decide)).trans s3.2.2.1, s3.2.2.2⟩, ⟨rfl, Nat.zero_le _, h21, hv, fun i hi => ?_⟩, ⟨⟨rfl, Nat.zero_le _, trivial⟩, ⟨?_, Nat.zero_le _, trivial⟩, ⟨(mOut_s (by decide)).trans g7, g8, g9⟩⟩, ⟨⟨fun z => absurd (show (1 : Int32) = 0 from z) (by decide), fun z => absurd (show true = false from z) (by decide)⟩, ⟨fun z => absurd (show (1 : Int32) = 0 from z) (by decide), fun z => absurd (show true = false from z) (by decide)⟩, s6.2.2⟩⟩
  · show σ.2.2 20 (60 * 0 + i) = (if 60 * 0 + i < 60 then cn (60 * 0 + i) else _)
    rw [Nat.mul_zero, Nat.zero_add, if_pos (by omega)]; exact h20 i hi
  · refine (mOut_s (by decide)).trans (g4.trans ?_)
    rw [hr]
end FRU
end JnS85
section JnS86
variable {yf : Nat × Nat}
/-! Funcs and procs of the reference: after a fault; the end; variables; the body. -/
section CAL
variable {T : Nat → Int32} {n : Nat} {c : Nat}
theorem s_isW01 (L : Nat → Int32) (σ : MS) : Tm (fun k => x_isWord k 0 L σ) (fun r => r.1 = 0 ∨ r.1 = 1) := by
  have e : ∀ (N : Nat → Int32), N 100 = 0 ∨ N 100 = 1 → Tm (fun k => x_isWord k 2 N σ) (fun r => r.1 = 0 ∨ r.1 = 1) := fun N hN => by
    refine Tm_suc (fun k => by rw [x_isWord]) ?_
    exact Tm_chk hN (Tm_some hN)
  have e1 : Tm (fun k => x_isWord k 1 L σ) (fun r => r.1 = 0 ∨ r.1 = 1) := by
    refine Tm_suc (fun k => by rw [x_isWord]) ?_
    exact e _ (Or.inl upd_same)
  refine Tm_suc (fun k => by rw [x_isWord]) ?_
  refine Tm_ite (fun _ => ?_) (fun _ => e1)
  exact Tm_ite (fun _ => e _ (Or.inr upd_same)) (fun _ => e1)
/-- the end of a callable: left -/
def PoE (T : Nat → Int32) (n c : Nat) (σ0 : MS) (Q : Nat → Int32 × Nat → BT → SB → MS → Prop) : Fl BD → Int32 × MS → Prop
  | Sum.inl yf, r => ∃ ρ, r.2 = mOut ρ ∧ (∃ m, Bb yf m ρ) ∧ FrU c σ0 (mAr ρ 17 c (σ0.2.2 17 c))
  | Sum.inr t, r => ∃ ρ, r.2 = mOut ρ ∧ Q t.1 t.2.1 t.2.2.1 t.2.2.2 ρ ∧ FrU c σ0 (mAr ρ 17 c (σ0.2.2 17 c))
theorem FrU_17 {σ ρ : MS} {x : Int32} (h : FrU c σ ρ) (y : Int32) : FrU c σ (mAr (mAr ρ 17 c x) 17 c (σ.2.2 17 c)) := by
  obtain ⟨h1, h2, h3, h4, h5, h6, h7, h8⟩ := h
  refine ⟨h1, h2, fun j hj => ?_, fun i hi => ?_, fun i hi => ?_, fun i hi => ?_, fun i hi => ?_, fun z => ?_⟩
  · by_cases e : j = 17
    · subst e
      rw [mAr_s, mAr_s]
      funext i
      by_cases w : i = c
      · subst w; rw [upd_same]
      · rw [upd_other w, upd_other w, h3 17 (by decide)]
    · rw [mAr_o e, mAr_o e]; exact h3 j hj
  · rw [mAr_o (by decide), mAr_o (by decide)]; exact h4 i hi
  · rw [mAr_o (by decide), mAr_o (by decide)]; exact h5 i hi
  · rw [mAr_o (by decide), mAr_o (by decide)]; exact h6 i hi
  · rw [mAr_o (by decide), mAr_o (by decide)]; exact h7 i hi
  · rw [mAr_o (by decide), mAr_o (by decide)]; exact h8 z
theorem mAr_id {σ : MS} {j i : Nat} : mAr σ j i (σ.2.2 j i) = σ := by
  unfold mAr
  have : upd (σ.2.2 j) i (σ.2.2 j i) = σ.2.2 j := by
    funext k
    by_cases e : k = i
    · subst e; rw [upd_same]
    · rw [upd_other e]
  rw [this, updG_self]
/-- from the last ; on -/
theorem ca_26 {σ ρ : MS} {N : Nat → Int32} {E : En} {q v : Nat} {b : BT} {x : Fl BD} {e : Int32 × Nat} {s : SB} {Q : Nat → Int32 × Nat → BT → SB → MS → Prop} (hG : pW T n 13 q (fun q2 => some (Sum.inr (q2, e, b, s))) = some x) (h : PS T n E 0 q v b ρ) (hF : FrU c σ (mAr ρ 17 c (σ.2.2 17 c))) (hQ : ∀ ρ', PS T n E 0 (tkN T n q) v b ρ' → FrM 0 0 E.2.2.2.1 ρ ρ' → Q (tkN T n q) e b s ρ') (hw : E.2.2.2.1 = c + 1) : Tm (fun k => x_declareCallable k 26 N ρ) (PoE T n c σ Q x) := by
  refine Tm_suc (fun k => by rw [x_declareCallable]) ?_
  refine Tm_ob (p_want (M := 0) (P := 0) (w := E.2.2.2.1) h (s := 13) (by decide) (by decide) upd_same) (fun r hr => ?_)
  refine Tm_suc (fun k => by rw [x_declareCallable]) ?_
  refine Tm_suc (fun k => by rw [x_declareCallable]) ?_
  refine Tm_suc (fun k => by rw [x_declareCallable]) ?_
  have hF2 : FrU c σ (mAr r.2 17 c (σ.2.2 17 c)) := by
    have hF1 := hr.1
    rw [hw] at hF1
    have g := FrU_M hF1
    have g2 : FrU c (mAr ρ 17 c (σ.2.2 17 c)) (mAr r.2 17 c (σ.2.2 17 c)) := by
      obtain ⟨h1, h2, h3, h4, h5, h6, h7, h8⟩ := g
      refine ⟨h1, h2, fun j hj => ?_, fun i hi => ?_, fun i hi => ?_, fun i hi => ?_, fun i hi => ?_, fun z => ?_⟩
      · by_cases e : j = 17
        · subst e; rw [mAr_s, mAr_s, h3 17 (by decide)]
        · rw [mAr_o e, mAr_o e]; exact h3 j hj
      · rw [mAr_o (by decide), mAr_o (by decide)]; exact h4 i hi
      · rw [mAr_o (by decide), mAr_o (by decide)]; exact h5 i hi
      · rw [mAr_o (by decide), mAr_o (by decide)]; exact h6 i hi
      · rw [mAr_o (by decide), mAr_o (by decide)]; exact h7 i hi
      · rw [mAr_o (by decide)] at z ⊢; exact h8 z
    exact FrU_tr hF g2
  rcases pW_any hG with ⟨z, rfl⟩ | ⟨z, hx⟩
  · rcases hr.2 with ⟨_, hB⟩ | ⟨y, _⟩
    · exact Tm_some ⟨r.2, rfl, ⟨_, hB⟩, hF2⟩
    · exact absurd y z
  · rcases hr.2 with ⟨y, _⟩ | ⟨_, hS⟩
    · exact absurd z y
    · obtain rfl := Option.some.inj hx
      exact Tm_some ⟨r.2, rfl, hQ _ hS hr.1, hF2⟩
/-- after a fault -/
theorem ca_b26 {σ ρ : MS} {N : Nat → Int32} {m : Nat} {Q : Nat → Int32 × Nat → BT → SB → MS → Prop} (hB : Bb yf m ρ) (hF : FrU c σ (mAr ρ 17 c (σ.2.2 17 c))) : Tm (fun k => x_declareCallable k 26 N ρ) (PoE T n c σ Q (Sum.inl yf)) := by
  refine Tm_suc (fun k => by rw [x_declareCallable]) ?_
  refine Tm_ob (b_want hB.1 _) (fun r hr => ?_)
  refine Tm_suc (fun k => by rw [x_declareCallable]) ?_
  refine Tm_suc (fun k => by rw [x_declareCallable]) ?_
  refine Tm_suc (fun k => by rw [x_declareCallable]) ?_
  rw [hr]
  exact Tm_some ⟨ρ, rfl, ⟨_, hB⟩, hF⟩
theorem ca_b23 {σ ρ : MS} {N : Nat → Int32} {m : Nat} {Q : Nat → Int32 × Nat → BT → SB → MS → Prop} (hc : c ≤ 40) (hN : N 2 = nI c) (hB : Bb yf m ρ) (hF : FrU c σ ρ) : Tm (fun k => x_declareCallable k 23 N ρ) (PoE T n c σ Q (Sum.inl yf)) := by
  refine Tm_suc (fun k => by rw [x_declareCallable]) ?_
  refine Tm_ob (show Tm (fun k => x_block k 0 (upd (fun _ => 0) 1 (-1)) ρ) (fun r => r.2 = ρ) from b_block hB.1) (fun r hr => ?_)
  rw [hN, hr]
  refine Tm_chk (n_in (by omega) (by omega)) ?_
  rw [n_cl (p := c) (by omega)]
  show Tm (fun k => x_declareCallable k 24 N (mAr ρ 17 c r.1)) _
  refine Tm_suc (fun k => by rw [x_declareCallable]) ?_
  have hB2 : Bb yf m (mAr ρ 17 c r.1) := hB
  refine Tm_ob (b_wantWord hB2.1 _) (fun r2 hr2 => ?_)
  rw [hr2]
  exact ca_b26 hB2 (FrU_17 hF 0)
theorem ca_b25 {σ ρ : MS} {N : Nat → Int32} {m : Nat} {Q : Nat → Int32 × Nat → BT → SB → MS → Prop} (hc : c ≤ 40) (hN : N 2 = nI c) (hB : Bb yf m ρ) (hF : FrU c σ ρ) : Tm (fun k => x_declareCallable k 25 N ρ) (PoE T n c σ Q (Sum.inl yf)) := by
  refine Tm_suc (fun k => by rw [x_declareCallable]) ?_
  refine Tm_ob (b_want hB.1 _) (fun r hr => ?_)
  rw [hr]
  refine Tm_ob (b_xexp hB.1 _) (fun r2 hr2 => ?_)
  rw [hr2, hN]
  refine Tm_chk (n_in (by omega) (by omega)) ?_
  rw [n_cl (p := c) (by omega)]
  show Tm (fun k => x_declareCallable k 26 N (mAr ρ 17 c 0)) _
  exact ca_b26 (show Bb _ m (mAr ρ 17 c 0) from hB) (FrU_17 hF 0)
theorem ca_b22 {σ ρ : MS} {N : Nat → Int32} {m : Nat} {Q : Nat → Int32 × Nat → BT → SB → MS → Prop} (hc : c ≤ 40) (hN : N 2 = nI c) (hB : Bb yf m ρ) (hF : FrU c σ ρ) : Tm (fun k => x_declareCallable k 22 N ρ) (PoE T n c σ Q (Sum.inl yf)) := by
  refine Tm_suc (fun k => by rw [x_declareCallable]) ?_
  exact Tm_ite (fun z => absurd z hB.1) (fun _ => ca_b23 hc hN hB hF)
theorem ca_b20 {σ ρ : MS} {N : Nat → Int32} {m : Nat} {Q : Nat → Int32 × Nat → BT → SB → MS → Prop} (hc : c ≤ 40) (hN : N 2 = nI c) (hB : Bb yf m ρ) (hF : FrU c σ ρ) : Tm (fun k => x_declareCallable k 20 N ρ) (PoE T n c σ Q (Sum.inl yf)) := by
  refine Tm_suc (fun k => by rw [x_declareCallable]) ?_
  show Tm (fun k => x_declareCallable k 21 N (mOpn ρ (ρ.1 13 - 1))) _
  have hB2 := Bb_opn hB (ρ.1 13 - 1)
  have hF2 := FrU_tr hF (FrU_opn (c := c) (σ := ρ) (ρ.1 13 - 1))
  refine Tm_suc (fun k => by rw [x_declareCallable]) ?_
  refine Tm_ite (fun _ => ca_b25 hc hN hB2 hF2) (fun _ => ?_)
  refine Tm_ob (b_want hB2.1 _) (fun r hr => ?_)
  rw [hr]
  exact ca_b22 hc hN hB2 hF2
theorem ca_b19 {σ ρ : MS} {N : Nat → Int32} {m : Nat} {Q : Nat → Int32 × Nat → BT → SB → MS → Prop} (hc : c ≤ 40) (hN : N 2 = nI c) (hB : Bb yf m ρ) (hF : FrU c σ ρ) : Tm (fun k => x_declareCallable k 19 N ρ) (PoE T n c σ Q (Sum.inl yf)) := by
  refine Tm_suc (fun k => by rw [x_declareCallable]) ?_
  have l : Tm (fun k => x_paramsOf k 0 (upd (upd (fun _ => 0) 1 (N 2)) 2 (N 1)) ρ) (fun r => r.2 = ρ) := by
    refine Tm_suc (fun k => by rw [x_paramsOf]) ?_
    exact pm_b hB.1
  refine Tm_ob l (fun r hr => ?_)
  rw [hr]
  exact Tm_ite (fun z => absurd z hB.1) (fun _ => ca_b20 hc hN hB hF)
end CAL
end JnS86
