/-- from some fuel on the function gives one and the same answer, and Q holds of it -/
def Tm {α : Type} (g : Nat → Option α) (Q : α → Prop) : Prop := ∃ (r : α) (k0 : Nat), (∀ k, k0 ≤ k → g k = some r) ∧ Q r
theorem Tm_some {α : Type} {r : α} {Q : α → Prop} (h : Q r) : Tm (fun _ => some r) Q := ⟨r, 0, fun _ _ => rfl, h⟩
theorem Tm_suc {α : Type} {g h : Nat → Option α} {Q : α → Prop} (e : ∀ k, g (k + 1) = h k) (t : Tm h Q) : Tm g Q := by
  obtain ⟨r, k0, h1, h2⟩ := t
  refine ⟨r, k0 + 1, fun k hk => ?_, h2⟩
  obtain ⟨j, rfl⟩ : ∃ j, k = j + 1 := ⟨k - 1, by omega⟩
  rw [e]; exact h1 j (by omega)
theorem Tm_ite {α : Type} {c : Prop} {_ : Decidable c} {g h : Nat → Option α} {Q : α → Prop} (t : c → Tm g Q) (u : ¬ c → Tm h Q) : Tm (fun k => if c then g k else h k) Q := by
  by_cases hc : c
  · simp only [if_pos hc]; exact t hc
  · simp only [if_neg hc]; exact u hc
theorem Tm_chk {α : Type} {c : Prop} {_ : Decidable c} {g : Nat → Option α} {Q : α → Prop} (hc : c) (t : Tm g Q) : Tm (fun k => if c then g k else none) Q := by
  simp only [if_pos hc]; exact t
theorem Tm_chk0 {α : Type} {c : Prop} {_ : Decidable c} {g : Nat → Option α} {Q : α → Prop} (hc : ¬ c) (t : Tm g Q) : Tm (fun k => if c then none else g k) Q := by
  simp only [if_neg hc]; exact t
theorem Tm_mono {α : Type} {g : Nat → Option α} {Q Q' : α → Prop} (t : Tm g Q) (h : ∀ r, Q r → Q' r) : Tm g Q' := by
  obtain ⟨r, k0, h1, h2⟩ := t
  exact ⟨r, k0, h1, h r h2⟩
theorem Tm_ob {x : Nat → Option (Int32 × MS)} {f : Nat → Int32 × MS → Option (Int32 × MS)} {P Q : Int32 × MS → Prop} (t : Tm x P) (h : ∀ r, P r → Tm (fun k => f k r) Q) : Tm (fun k => ob (x k) (f k)) Q := by
  obtain ⟨r, k0, h1, h2⟩ := t
  obtain ⟨q, k1, h3, h4⟩ := h r h2
  refine ⟨q, max k0 k1, fun k hk => ?_, h4⟩
  show ob (x k) (f k) = some q
  rw [h1 k (by omega)]; exact h3 k (by omega)
theorem Tm_op {x : Nat → Option (Int32 × CS)} {f : Nat → Int32 × CS → Option RS} {P : Int32 × CS → Prop} {Q : RS → Prop} (t : Tm x P) (h : ∀ r, P r → Tm (fun k => f k r) Q) : Tm (fun k => op (x k) (f k)) Q := by
  obtain ⟨r, k0, h1, h2⟩ := t
  obtain ⟨q, k1, h3, h4⟩ := h r h2
  refine ⟨q, max k0 k1, fun k hk => ?_, h4⟩
  show op (x k) (f k) = some q
  rw [h1 k (by omega)]; exact h3 k (by omega)
theorem Tm_ox {x : Nat → Option RS} {f : Nat → RS → Option RS} {P Q : RS → Prop} (t : Tm x P) (hx : ∀ r, P r → ¬ r.1.1 = 0 → Q r) (h : ∀ r, P r → r.1.1 = 0 → Tm (fun k => f k r) (fun q => Q (q.1, q.2.1, (r.2.2.1 + q.2.2.1, r.2.2.2 + q.2.2.2)))) : Tm (fun k => ox (x k) (f k)) Q := by
  obtain ⟨r, k0, h1, h2⟩ := t
  by_cases h0 : r.1.1 = 0
  · obtain ⟨q, k1, h3, h4⟩ := h r h2 h0
    refine ⟨(q.1, q.2.1, (r.2.2.1 + q.2.2.1, r.2.2.2 + q.2.2.2)), max k0 k1, fun k hk => ?_, h4⟩
    show ox (x k) (f k) = _
    rw [h1 k (by omega)]
    show (if r.1.1 = 0 then adR r.2.2 (f k r) else some r) = _
    rw [if_pos h0, show f k r = some q from h3 k (by omega)]; rfl
  · refine ⟨r, k0, fun k hk => ?_, hx r h2 h0⟩
    show ox (x k) (f k) = _
    rw [h1 k hk]
    show (if r.1.1 = 0 then adR r.2.2 (f k r) else some r) = _
    rw [if_neg h0]
theorem Tm_adR {c : Nat × Nat} {x : Nat → Option RS} {Q : RS → Prop} (t : Tm x (fun q => Q (q.1, q.2.1, (c.1 + q.2.2.1, c.2 + q.2.2.2)))) : Tm (fun k => adR c (x k)) Q := by
  obtain ⟨r, k0, h1, h2⟩ := t
  exact ⟨_, k0, fun k hk => by show adR c (x k) = _; rw [h1 k hk]; rfl, h2⟩
/-! The reference: methods that answer at once. -/
theorem s_good (L : Nat → Int32) (σ : MS) : Tm (fun k => x_good k 0 L σ) (fun r => r = (if L 1 = 0 then 1 else 0, (upd σ.1 2 (L 1), σ.2.1, σ.2.2))) := by
  refine Tm_suc (fun k => by rw [x_good]) ?_
  refine Tm_suc (fun k => by rw [x_good]) ?_
  refine Tm_ite (fun c => ?_) (fun c => ?_)
  · refine Tm_suc (fun k => by rw [x_good]) ?_
    refine Tm_chk (Or.inr rfl) ?_
    exact Tm_some (by rw [if_pos c]; rfl)
  · refine Tm_suc (fun k => by rw [x_good]) ?_
    refine Tm_suc (fun k => by rw [x_good]) ?_
    refine Tm_chk (Or.inl rfl) ?_
    exact Tm_some (by rw [if_neg c]; rfl)
