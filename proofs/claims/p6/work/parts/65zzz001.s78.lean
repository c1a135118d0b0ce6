/-! Declarations: how they go on; a local variable is told. -/
def pb {α β : Type} (x : Option (Option α)) (k : α → Option (Option β)) : Option (Option β) := match x with
  | none => none
  | some none => some none
  | some (some r) => k r
def pT {β : Type} (T : Nat → Int32) (n q : Nat) (k : Nat → Option (Option β)) : Option (Option β) := if tkK T n (tkN T n q) = 0 then some none else k (tkN T n q)
def pW {β : Type} (T : Nat → Int32) (n t q : Nat) (k : Nat → Option (Option β)) : Option (Option β) := if tkK T n q = t then pT T n q k else some none
theorem pb_any {α β : Type} {x : Option (Option α)} {k : α → Option (Option β)} {y : Option β} (h : pb x k = some y) : (x = some none ∧ y = none) ∨ ∃ s, x = some (some s) ∧ k s = some y := by
  cases x with
  | none => exact absurd h (by intro h; cases h)
  | some z => cases z with
    | none => exact Or.inl ⟨rfl, (Option.some.inj h).symm⟩
    | some s => exact Or.inr ⟨s, rfl, h⟩
theorem pT_any {β : Type} {T : Nat → Int32} {n q : Nat} {k : Nat → Option (Option β)} {y : Option β} (h : pT T n q k = some y) : (tkK T n (tkN T n q) = 0 ∧ y = none) ∨ (¬ tkK T n (tkN T n q) = 0 ∧ k (tkN T n q) = some y) := by
  unfold pT at h
  by_cases c : tkK T n (tkN T n q) = 0
  · rw [if_pos c] at h; exact Or.inl ⟨c, (Option.some.inj h).symm⟩
  · rw [if_neg c] at h; exact Or.inr ⟨c, h⟩
theorem pW_any {β : Type} {T : Nat → Int32} {n t q : Nat} {k : Nat → Option (Option β)} {y : Option β} (h : pW T n t q k = some y) : (¬ (tkK T n q = t ∧ ¬ tkK T n (tkN T n q) = 0) ∧ y = none) ∨ ((tkK T n q = t ∧ ¬ tkK T n (tkN T n q) = 0) ∧ k (tkN T n q) = some y) := by
  unfold pW at h
  by_cases c : tkK T n q = t
  · rw [if_pos c] at h
    rcases pT_any h with ⟨a, b⟩ | ⟨a, b⟩
    · exact Or.inl ⟨fun z => z.2 a, b⟩
    · exact Or.inr ⟨⟨c, a⟩, b⟩
  · rw [if_neg c] at h; exact Or.inl ⟨fun z => c z.1, (Option.some.inj h).symm⟩
theorem pb_t {α β : Type} {x : Option (Option α)} {k : α → Option (Option β)} (hx : ∃ y, x = some y) (hk : ∀ s, x = some (some s) → ∃ y, k s = some y) : ∃ y, pb x k = some y := by
  obtain ⟨y, hy⟩ := hx
  cases y with
  | none => exact ⟨none, by rw [hy]; rfl⟩
  | some s => obtain ⟨z, hz⟩ := hk s hy; exact ⟨z, by rw [hy]; exact hz⟩
theorem pT_t {β : Type} {T : Nat → Int32} {n q : Nat} {k : Nat → Option (Option β)} (hk : ∃ y, k (tkN T n q) = some y) : ∃ y, pT T n q k = some y := by
  unfold pT
  by_cases c : tkK T n (tkN T n q) = 0
  · rw [if_pos c]; exact ⟨_, rfl⟩
  · rw [if_neg c]; exact hk
theorem pW_t {β : Type} {T : Nat → Int32} {n t q : Nat} {k : Nat → Option (Option β)} (hk : tkK T n q = t → ∃ y, k (tkN T n q) = some y) : ∃ y, pW T n t q k = some y := by
  unfold pW
  by_cases c : tkK T n q = t
  · rw [if_pos c]; exact pT_t (hk c)
  · rw [if_neg c]; exact ⟨_, rfl⟩
/-- next token, what is around, variables, what is laid -/
abbrev DV := Nat × En × Nat × BT
abbrev tlC (T : Nat → Int32) (n : Nat) (E : En) (q v : Nat) : Prop := tkK T n q = 26 ∧ (E.2.1.find? (fun x => decide (x.1 = tkS T n q))).isSome = false ∧ ¬ v = 60
abbrev bTl (T : Nat → Int32) (n : Nat) (E : En) (q v : Nat) (b : BT) : BT := bKeep (bSlot b (60 * E.2.2.2.1 + v) 1) T q (tkE T n q - q)
abbrev eTl (T : Nat → Int32) (n : Nat) (E : En) (q v : Nat) (b : BT) : En := seeN E [(tkS T n q, b.2.1, v)]
def gTl {β : Type} (T : Nat → Int32) (n : Nat) (E : En) (q v : Nat) (b : BT) (k : DV → Option (Option β)) : Option (Option β) :=
  if tlC T n E q v then pT T n q (fun q1 => k (q1, eTl T n E q v b, v + 1, bTl T n E q v b)) else some none
theorem gTl_any {β : Type} {T : Nat → Int32} {n : Nat} {E : En} {q v : Nat} {b : BT} {k : DV → Option (Option β)} {y : Option β} (h : gTl T n E q v b k = some y) : (¬ (tlC T n E q v ∧ ¬ tkK T n (tkN T n q) = 0) ∧ y = none) ∨ ((tlC T n E q v ∧ ¬ tkK T n (tkN T n q) = 0) ∧ k (tkN T n q, eTl T n E q v b, v + 1, bTl T n E q v b) = some y) := by
  unfold gTl at h
  by_cases c : tlC T n E q v
  · rw [if_pos c] at h
    rcases pT_any h with ⟨a, b⟩ | ⟨a, b⟩
    · exact Or.inl ⟨fun z => z.2 a, b⟩
    · exact Or.inr ⟨⟨c, a⟩, b⟩
  · rw [if_neg c] at h; exact Or.inl ⟨fun z => c z.1, (Option.some.inj h).symm⟩
/-- what telling variables leaves as it is -/
def FrV (σ σ' : MS) : Prop :=
  (∀ j, ¬ ((5 ≤ j ∧ j ≤ 13) ∨ j = 24 ∨ j = 25 ∨ j = 38 ∨ (46 ≤ j ∧ j ≤ 48)) → σ'.1 j = σ.1 j) ∧ σ'.2.1 = σ.2.1 ∧
  (∀ j, ¬ ((12 ≤ j ∧ j ≤ 16) ∨ (20 ≤ j ∧ j ≤ 24)) → σ'.2.2 j = σ.2.2 j)
theorem FrV_rf {σ : MS} : FrV σ σ := ⟨fun _ _ => rfl, rfl, fun _ _ => rfl⟩
theorem FrV_tr {σ τ υ : MS} (h : FrV σ τ) (g : FrV τ υ) : FrV σ υ := ⟨fun j hj => (g.1 j hj).trans (h.1 j hj), g.2.1.trans h.2.1, fun j hj => (g.2.2 j hj).trans (h.2.2 j hj)⟩
theorem FrV_sc {σ : MS} {u : Nat → Int32} (h : ∀ j, ¬ ((5 ≤ j ∧ j ≤ 13) ∨ j = 24 ∨ j = 25 ∨ j = 38 ∨ (46 ≤ j ∧ j ≤ 48)) → u j = σ.1 j) : FrV σ (u, σ.2.1, σ.2.2) := ⟨h, rfl, fun _ _ => rfl⟩
theorem FrV_flt {σ : MS} (x y : Int32) : FrV σ (mFlt σ x y) := by
  unfold mFlt
  by_cases h : σ.1 10 = 0
  · rw [if_pos h]; exact FrV_sc (fun j hj => by rw [upd_other (by omega), upd_other (by omega), upd_other (by omega)])
  · rw [if_neg h]; exact FrV_rf
theorem FrV_slot {σ : MS} {w v : Nat} (x : Int32) : FrV σ (mSlot σ w v x) := ⟨fun _ _ => rfl, rfl, fun j hj => mSlot_o (by omega) (by omega)⟩
theorem FrV_see {σ : MS} {r : Nat} {x y z : Int32} : FrV σ (mSeeP σ r x y z) := ⟨fun j hj => mSeeP_s (by omega), rfl, fun j hj => mSeeP_o (by omega)⟩
theorem FrV_pool {σ : MS} {f : Nat} : ∀ m : Nat, FrV σ (mPool σ f m)
  | 0 => FrV_rf
  | m + 1 => FrV_tr (FrV_pool m) ⟨fun j hj => upd_other (by omega), rfl, fun j hj => updG_other (by omega)⟩
theorem Tm_and {α : Type} {g : Nat → Option α} {P Q : α → Prop} (h : Tm g P) (k : Tm g Q) : Tm g (fun r => P r ∧ Q r) := by
  obtain ⟨r, k0, h1, h2⟩ := h
  obtain ⟨r', k1, h3, h4⟩ := k
  have e : r = r' := Option.some.inj ((h1 (max k0 k1) (by omega)).symm.trans (h3 (max k0 k1) (by omega)))
  subst e
  exact ⟨r, k0, h1, h2, h4⟩
/-- the next token, in this frame too -/
theorem v_take {T : Nat → Int32} {n : Nat} {E : En} {o q v : Nat} {b : BT} {σ : MS} (h : PS T n E o q v b σ) (L : Nat → Int32) : Tm (fun k => x_take k 0 L σ) (fun r => FrV σ r.2 ∧ ((tkK T n (tkN T n q) = 0 ∧ Bb b.1 r.2) ∨ (¬ tkK T n (tkN T n q) = 0 ∧ PS T n E o (tkN T n q) v b r.2))) := by
  have hc := PS_cur h
  have hE := tkE_b T n q hc.1
  refine Tm_mono (Tm_and (p_take (M := 0) (P := 0) (w := 0) h L) (s_take h.1.1 h.1.2.2.1 hc.2.2.1 hE.2.1 L)) (fun r hr => ?_)
  obtain ⟨h2, t1, t2, t3, t4, t5, t6, t7, t8⟩ := hr
  exact ⟨⟨fun j hj => t7 j (by omega), by rw [t1], fun j hj => by rw [t1]⟩, h2.2⟩
