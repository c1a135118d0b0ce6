/-! Declarations: how they go on; a local variable is told. -/
def pb {α β : Type} (x : Option (Option α)) (k : α → Option (Option β)) : Option (Option β) := match x with
  | none => none
  | some none => some none
  | some (some r) => k r
def pT {β : Type} (T : Nat → Int32) (n q : Nat) (k : Nat → Option (Option β)) : Option (Option β) := if tkK T n (tkN T n q) = 0 then some none else k (tkN T n q)
def pW {β : Type} (T : Nat → Int32) (n t q : Nat) (k : Nat → Option (Option β)) : Option (Option β) := if tkK T n q = t then pT T n q k else some none
theorem pb_any {α β : Type} {x : Option (Option α)} {k : α → Option (Option β)} {y : Option β} (h : pb x k = some y) : (x = some none ∧ y = none) ∨ ∃ s, x = some (some s) ∧ k s = some y := by
  cases x with
  | none => exact absurd h (by intro h; cases h)
  | some z => cases z with
    | none => exact Or.inl ⟨rfl, (Option.some.inj h).symm⟩
    | some s => exact Or.inr ⟨s, rfl, h⟩
theorem pT_any {β : Type} {T : Nat → Int32} {n q : Nat} {k : Nat → Option (Option β)} {y : Option β} (h : pT T n q k = some y) : (tkK T n (tkN T n q) = 0 ∧ y = none) ∨ (¬ tkK T n (tkN T n q) = 0 ∧ k (tkN T n q) = some y) := by
  unfold pT at h
  by_cases c : tkK T n (tkN T n q) = 0
  · rw [if_pos c] at h; exact Or.inl ⟨c, (Option.some.inj h).symm⟩
  · rw [if_neg c] at h; exact Or.inr ⟨c, h⟩
theorem pW_any {β : Type} {T : Nat → Int32} {n t q : Nat} {k : Nat → Option (Option β)} {y : Option β} (h : pW T n t q k = some y) : (¬ (tkK T n q = t ∧ ¬ tkK T n (tkN T n q) = 0) ∧ y = none) ∨ ((tkK T n q = t ∧ ¬ tkK T n (tkN T n q) = 0) ∧ k (tkN T n q) = some y) := by
  unfold pW at h
  by_cases c : tkK T n q = t
  · rw [if_pos c] at h
    rcases pT_any h with ⟨a, b⟩ | ⟨a, b⟩
    · exact Or.inl ⟨fun z => z.2 a, b⟩
    · exact Or.inr ⟨⟨c, a⟩, b⟩
  · rw [if_neg c] at h; exact Or.inl ⟨fun z => c z.1, (Option.some.inj h).symm⟩
theorem pb_t {α β : Type} {x : Option (Option α)} {k : α → Option (Option β)} (hx : ∃ y, x = some y) (hk : ∀ s, x = some (some s) → ∃ y, k s = some y) : ∃ y, pb x k = some y := by
  obtain ⟨y, hy⟩ := hx
  cases y with
  | none => exact ⟨none, by rw [hy]; rfl⟩
  | some s => obtain ⟨z, hz⟩ := hk s hy; exact ⟨z, by rw [hy]; exact hz⟩
theorem pT_t {β : Type} {T : Nat → Int32} {n q : Nat} {k : Nat → Option (Option β)} (hk : ∃ y, k (tkN T n q) = some y) : ∃ y, pT T n q k = some y := by
  unfold pT
  by_cases c : tkK T n (tkN T n q) = 0
  · rw [if_pos c]; exact ⟨_, rfl⟩
  · rw [if_neg c]; exact hk
theorem pW_t {β : Type} {T : Nat → Int32} {n t q : Nat} {k : Nat → Option (Option β)} (hk : tkK T n q = t → ∃ y, k (tkN T n q) = some y) : ∃ y, pW T n t q k = some y := by
  unfold pW
  by_cases c : tkK T n q = t
  · rw [if_pos c]; exact pT_t (hk c)
  · rw [if_neg c]; exact ⟨_, rfl⟩
/-- next token, what is around, variables, what is laid -/
abbrev DV := Nat × En × Nat × BT
abbrev tlC (T : Nat → Int32) (n : Nat) (E : En) (q v : Nat) : Prop := tkK T n q = 26 ∧ (E.2.1.find? (fun x => decide (x.1 = tkS T n q))).isSome = false ∧ ¬ v = 60
abbrev bTl (T : Nat → Int32) (n : Nat) (E : En) (q v : Nat) (b : BT) : BT := bKeep (bSlot b (60 * E.2.2.2.1 + v) 1) T q (tkE T n q - q)
abbrev eTl (T : Nat → Int32) (n : Nat) (E : En) (q v : Nat) (b : BT) : En := seeN E [(tkS T n q, b.2.1, v)]
def gTl {β : Type} (T : Nat → Int32) (n : Nat) (E : En) (q v : Nat) (b : BT) (k : DV → Option (Option β)) : Option (Option β) :=
  if tlC T n E q v then pT T n q (fun q1 => k (q1, eTl T n E q v b, v + 1, bTl T n E q v b)) else some none
theorem gTl_any {β : Type} {T : Nat → Int32} {n : Nat} {E : En} {q v : Nat} {b : BT} {k : DV → Option (Option β)} {y : Option β} (h : gTl T n E q v b k = some y) : (¬ (tlC T n E q v ∧ ¬ tkK T n (tkN T n q) = 0) ∧ y = none) ∨ ((tlC T n E q v ∧ ¬ tkK T n (tkN T n q) = 0) ∧ k (tkN T n q, eTl T n E q v b, v + 1, bTl T n E q v b) = some y) := by
  unfold gTl at h
  by_cases c : tlC T n E q v
  · rw [if_pos c] at h
    rcases pT_any h with ⟨a, b⟩ | ⟨a, b⟩
    · exact Or.inl ⟨fun z => z.2 a, b⟩
    · exact Or.inr ⟨⟨c, a⟩, b⟩
  · rw [if_neg c] at h; exact Or.inl ⟨fun z => c z.1, (Option.some.inj h).symm⟩
/-- what telling variables of the unit w leaves as it is -/
def FrV (w : Nat) (σ σ' : MS) : Prop :=
  (∀ j, ¬ ((5 ≤ j ∧ j ≤ 13) ∨ j = 24 ∨ j = 25 ∨ j = 38 ∨ (46 ≤ j ∧ j ≤ 48)) → σ'.1 j = σ.1 j) ∧ σ'.2.1 = σ.2.1 ∧
  (∀ j, ¬ ((12 ≤ j ∧ j ≤ 16) ∨ (20 ≤ j ∧ j ≤ 24)) → σ'.2.2 j = σ.2.2 j) ∧
  (∀ i, i ≠ w → σ'.2.2 21 i = σ.2.2 21 i) ∧ (∀ i, i < 60 * w ∨ 60 * w + 60 ≤ i → σ'.2.2 20 i = σ.2.2 20 i)
theorem FrV_rf {w : Nat} {σ : MS} : FrV w σ σ := ⟨fun _ _ => rfl, rfl, fun _ _ => rfl, fun _ _ => rfl, fun _ _ => rfl⟩
theorem FrV_tr {w : Nat} {σ τ υ : MS} (h : FrV w σ τ) (g : FrV w τ υ) : FrV w σ υ := ⟨fun j hj => (g.1 j hj).trans (h.1 j hj), g.2.1.trans h.2.1, fun j hj => (g.2.2.1 j hj).trans (h.2.2.1 j hj), fun j hj => (g.2.2.2.1 j hj).trans (h.2.2.2.1 j hj), fun j hj => (g.2.2.2.2 j hj).trans (h.2.2.2.2 j hj)⟩
theorem FrV_sc {w : Nat} {σ : MS} {u : Nat → Int32} (h : ∀ j, ¬ ((5 ≤ j ∧ j ≤ 13) ∨ j = 24 ∨ j = 25 ∨ j = 38 ∨ (46 ≤ j ∧ j ≤ 48)) → u j = σ.1 j) : FrV w σ (u, σ.2.1, σ.2.2) := ⟨h, rfl, fun _ _ => rfl, fun _ _ => rfl, fun _ _ => rfl⟩
/-- the same rows -/
theorem FrV_s2 {w : Nat} {σ τ : MS} (h : ∀ j, ¬ ((5 ≤ j ∧ j ≤ 13) ∨ j = 24 ∨ j = 25 ∨ j = 38 ∨ (46 ≤ j ∧ j ≤ 48)) → τ.1 j = σ.1 j) (h2 : τ.2 = σ.2) : FrV w σ τ := ⟨h, by rw [h2], fun _ _ => by rw [h2], fun _ _ => by rw [h2], fun _ _ => by rw [h2]⟩
theorem FrV_flt {w : Nat} {σ : MS} (x y : Int32) : FrV w σ (mFlt σ x y) := by
  unfold mFlt
  by_cases h : σ.1 10 = 0
  · rw [if_pos h]; exact FrV_sc (fun j hj => by rw [upd_other (by omega), upd_other (by omega), upd_other (by omega)])
  · rw [if_neg h]; exact FrV_rf
theorem FrV_slot {σ : MS} {w v : Nat} (hv : v < 60) (x : Int32) : FrV w σ (mSlot σ w v x) := ⟨fun _ _ => rfl, rfl, fun j hj => mSlot_o (by omega) (by omega), fun i hi => by rw [mSlot_21, upd_other hi], fun i hi => by rw [mSlot_20, upd_other (by omega)]⟩
theorem FrV_see {w : Nat} {σ : MS} {r : Nat} {x y z : Int32} : FrV w σ (mSeeP σ r x y z) := ⟨fun j hj => mSeeP_s (by omega), rfl, fun j hj => mSeeP_o (by omega), fun i _ => by rw [mSeeP_o (by decide)], fun i _ => by rw [mSeeP_o (by decide)]⟩
theorem FrV_pool {w : Nat} {σ : MS} {f : Nat} : ∀ m : Nat, FrV w σ (mPool σ f m)
  | 0 => FrV_rf
  | m + 1 => by
    have r : ∀ j, j ≠ 12 → (mPool σ f (m + 1)).2.2 j = (mPool σ f m).2.2 j := fun j hj => by
      show updG (mPool σ f m).2.2 12 _ j = _
      rw [updG_other hj]
    exact FrV_tr (FrV_pool m) ⟨fun j hj => upd_other (by omega), rfl, fun j hj => r j (by omega), fun i _ => by rw [r 21 (by decide)], fun i _ => by rw [r 20 (by decide)]⟩
theorem Tm_and {α : Type} {g : Nat → Option α} {P Q : α → Prop} (h : Tm g P) (k : Tm g Q) : Tm g (fun r => P r ∧ Q r) := by
  obtain ⟨r, k0, h1, h2⟩ := h
  obtain ⟨r', k1, h3, h4⟩ := k
  have e : r = r' := Option.some.inj ((h1 (max k0 k1) (by omega)).symm.trans (h3 (max k0 k1) (by omega)))
  subst e
  exact ⟨r, k0, h1, h2, h4⟩
/-- the next token, in this frame too -/
theorem v_take {w : Nat} {T : Nat → Int32} {n : Nat} {E : En} {o q v : Nat} {b : BT} {σ : MS} (h : PS T n E o q v b σ) (L : Nat → Int32) : Tm (fun k => x_take k 0 L σ) (fun r => FrV w σ r.2 ∧ ((tkK T n (tkN T n q) = 0 ∧ Bb b.1 r.2) ∨ (¬ tkK T n (tkN T n q) = 0 ∧ PS T n E o (tkN T n q) v b r.2))) := by
  have hc := PS_cur h
  have hE := tkE_b T n q hc.1
  refine Tm_mono (Tm_and (p_take (M := 0) (P := 0) (w := 0) h L) (s_take h.1.1 h.1.2.2.1 hc.2.2.1 hE.2.1 L)) (fun r hr => ?_)
  obtain ⟨h2, t1, t2, t3, t4, t5, t6, t7, t8⟩ := hr
  exact ⟨FrV_s2 (fun j hj => t7 j (by omega)) t1, h2.2⟩
