/-! The closing of a for doesn't look at the top (reference). -/
/-- the answer with another top -/
def o59 (x : Int32) (r : Option (Int32 × MS)) : Option (Int32 × MS) := r.map (fun q => (q.1, mSc q.2 59 x))
section O59
variable {x : Int32}
theorem o59_if {c : Prop} {d : Decidable c} {a a' b b' : Option (Int32 × MS)} (h1 : a' = o59 x a) (h2 : b' = o59 x b) : (if c then a' else b') = o59 x (if c then a else b) := by
  by_cases h : c
  · rw [if_pos h, if_pos h]; exact h1
  · rw [if_neg h, if_neg h]; exact h2
theorem o59_ob {A A' : Option (Int32 × MS)} {F F' : Int32 × MS → Option (Int32 × MS)} (h1 : A' = o59 x A) (h2 : ∀ r : Int32 × MS, F' (r.1, mSc r.2 59 x) = o59 x (F r)) : ob A' F' = o59 x (ob A F) := by
  rw [h1]
  cases A with
  | none => rfl
  | some r => exact h2 r
theorem c59_size : ∀ (k b : Nat) (L : Nat → Int32) (σ : MS), x_size k b L (mSc σ 59 x) = o59 x (x_size k b L σ) := by
  intro k
  induction k with
  | zero => intro b L σ; rw [x_size, x_size]; rfl
  | succ k ih =>
    intro b L σ
    match b with
    | 0 => rw [x_size, x_size]; exact o59_if (ih 1 L σ) (ih 2 _ σ)
    | 1 => rw [x_size, x_size]; exact o59_if (ih 2 _ σ) rfl
    | 2 => rw [x_size, x_size]; rfl
    | b + 3 => rw [x_size, x_size]; rfl
theorem c59_valueOf : ∀ (k b : Nat) (L : Nat → Int32) (σ : MS), x_valueOf k b L (mSc σ 59 x) = o59 x (x_valueOf k b L σ) := by
  intro k
  induction k with
  | zero => intro b L σ; rw [x_valueOf, x_valueOf]; rfl
  | succ k ih =>
    intro b L σ
    match b with
    | 0 => rw [x_valueOf, x_valueOf]; exact o59_if (o59_if (o59_if (o59_if rfl rfl) rfl) (ih 1 L σ)) rfl
    | 1 => rw [x_valueOf, x_valueOf]; exact o59_if (ih 2 L σ) (o59_if (o59_if (ih 3 _ σ) rfl) rfl)
    | 2 => rw [x_valueOf, x_valueOf]; exact o59_if (o59_if (o59_if (ih 3 _ σ) rfl) rfl) rfl
    | 3 => rw [x_valueOf, x_valueOf]; rfl
    | b + 4 => rw [x_valueOf, x_valueOf]; rfl
theorem c59_bindOne : ∀ (k b : Nat) (L : Nat → Int32) (σ : MS), x_bindOne k b L (mSc σ 59 x) = o59 x (x_bindOne k b L σ) := by
  intro k
  induction k with
  | zero => intro b L σ; rw [x_bindOne, x_bindOne]; rfl
  | succ k ih =>
    intro b L σ
    match b with
    | 0 => rw [x_bindOne, x_bindOne]; exact o59_if (o59_if (o59_if (o59_if (ih 3 L (mAr σ 30 _ _)) rfl) rfl) (ih 1 L σ)) rfl
    | 1 => rw [x_bindOne, x_bindOne]; exact o59_if (ih 2 L σ) (o59_if (o59_if (ih 3 L (mAr σ 33 _ _)) rfl) rfl)
    | 2 => rw [x_bindOne, x_bindOne]; exact o59_if (o59_if (o59_if (ih 3 L (mAr σ 30 _ _)) rfl) rfl) rfl
    | 3 => rw [x_bindOne, x_bindOne]; rfl
    | b + 4 => rw [x_bindOne, x_bindOne]; rfl
theorem c59_dropIter : ∀ (k b : Nat) (L : Nat → Int32) (σ : MS), x_dropIter k b L (mSc σ 59 x) = o59 x (x_dropIter k b L σ) := by
  intro k
  induction k with
  | zero => intro b L σ; rw [x_dropIter, x_dropIter]; rfl
  | succ k ih =>
    intro b L σ
    match b with
    | 0 => rw [x_dropIter, x_dropIter]; exact o59_if (o59_if (ih 1 L (mAr σ 30 _ _)) rfl) rfl
    | 1 =>
      rw [x_dropIter, x_dropIter]
      exact o59_if (o59_if (o59_ob (c59_size k 0 _ σ) (fun r => congrArg (fun s : MS => some ((0 : Int32), s)) (mSc_c (σ := r.2) (j := 59) (k := 64) (by decide)))) rfl) rfl
    | b + 2 => rw [x_dropIter, x_dropIter]; rfl
theorem c59_closeFor : ∀ (k b : Nat) (L : Nat → Int32) (σ : MS), x_closeFor k b L (mSc σ 59 x) = o59 x (x_closeFor k b L σ) := by
  intro k
  induction k with
  | zero => intro b L σ; rw [x_closeFor, x_closeFor]; rfl
  | succ k ih =>
    intro b L σ
    match b with
    | 0 => rw [x_closeFor, x_closeFor]; exact o59_if (ih 1 _ σ) rfl
    | 1 => rw [x_closeFor, x_closeFor]; exact o59_if (o59_if (o59_if (ih 2 L σ) (o59_ob (c59_dropIter k 0 _ σ) (fun r => ih 1 L r.2))) rfl) rfl
    | 2 => rw [x_closeFor, x_closeFor]; exact o59_if (o59_if (ih 3 L (mAr σ 30 _ _)) rfl) rfl
    | 3 => rw [x_closeFor, x_closeFor]; exact o59_if (o59_if (ih 4 _ σ) rfl) rfl
    | 4 => rw [x_closeFor, x_closeFor]; exact o59_if (ih 8 L σ) (o59_if (ih 5 _ σ) rfl)
    | 5 =>
      rw [x_closeFor, x_closeFor]
      exact o59_if (ih 7 L σ) (o59_ob (c59_valueOf k 0 _ σ) (fun r => o59_ob (c59_size k 0 _ r.2) (fun q => (congrArg (x_closeFor k 6 L) (mSc_c (σ := q.2) (j := 59) (k := 64) (by decide))).trans (ih 6 L (mSc q.2 64 _)))))
    | 6 => rw [x_closeFor, x_closeFor]; exact o59_ob (c59_bindOne k 0 _ σ) (fun r => o59_if (ih 5 _ r.2) rfl)
    | 7 => rw [x_closeFor, x_closeFor]; exact o59_if (ih 4 _ σ) rfl
    | 8 => rw [x_closeFor, x_closeFor]; rfl
    | b + 9 => rw [x_closeFor, x_closeFor]; rfl
end O59
