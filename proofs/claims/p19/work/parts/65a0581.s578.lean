section JnS578
/-! What calls leave of the program's counts and text (reference; made by k9.py). -/
abbrev K9T := Int32 × Int32 × Int32 × Int32 × Int32 × (Nat → Int32)
/-- statements, procs, whether a program stands, its bytes, its variables, its text -/
def k9 (w : K9T) (σ : MS) : Prop := σ.1 44 = w.1 ∧ σ.1 31 = w.2.1 ∧ σ.1 111 = w.2.2.1 ∧ σ.1 115 = w.2.2.2.1 ∧ σ.2.2 21 0 = w.2.2.2.2.1 ∧ σ.2.2 53 = w.2.2.2.2.2
def I42 (w : K9T) (σ : MS) : Prop := σ.1 37 = 42 ∧ k9 w σ
def R9 (w : K9T) (x : Option (Int32 × MS)) : Prop := ∀ r, x = some r → k9 w r.2
def J9 (w : K9T) (x : Option (Int32 × MS)) : Prop := ∀ r, x = some r → I42 w r.2
def k9v (σ : MS) : K9T := (σ.1 44, σ.1 31, σ.1 111, σ.1 115, σ.2.2 21 0, σ.2.2 53)
theorem k9_rf (σ : MS) : k9 (k9v σ) σ := ⟨rfl, rfl, rfl, rfl, rfl, rfl⟩
section K9S
variable {w : K9T} {σ : MS}
theorem k9_21 {i : Nat} {x : Int32} (hi : ¬ i = 0) (h : k9 w σ) : k9 w (σ.1, σ.2.1, updG σ.2.2 21 (upd (σ.2.2 21) i x)) := by
  refine ⟨h.1, h.2.1, h.2.2.1, h.2.2.2.1, ?_, h.2.2.2.2.2⟩
  show updG σ.2.2 21 (upd (σ.2.2 21) i x) 21 0 = _
  rw [updG_same, upd_other (fun z => hi z.symm)]
  exact h.2.2.2.2.1
theorem J9_no : J9 w none := fun _ h => by cases h
theorem J9_so {r : Int32 × MS} (h : I42 w r.2) : J9 w (some r) := fun _ e => by cases e; exact h
theorem J9_eq {a a' : Option (Int32 × MS)} (h1 : a = a') (h : J9 w a') : J9 w a := by rw [h1]; exact h
theorem J9_ob {x : Option (Int32 × MS)} {f : Int32 × MS → Option (Int32 × MS)} (h1 : J9 w x) (h2 : ∀ r, I42 w r.2 → J9 w (f r)) : J9 w (ob x f) := by
  intro r hr
  cases x with
  | none => cases hr
  | some s => exact h2 s (h1 s rfl) r hr
theorem J9_ite {p : Prop} {_ : Decidable p} {a b : Option (Int32 × MS)} (h1 : J9 w a) (h2 : J9 w b) : J9 w (if p then a else b) := by
  by_cases h : p
  · rw [if_pos h]; exact h1
  · rw [if_neg h]; exact h2
theorem J9_od {d : Nat} {f : Nat → Option (Int32 × MS)} (h : ∀ e, J9 w (f e)) : J9 w (od d f) := by
  cases d with
  | zero => exact J9_no
  | succ e => exact h e
theorem R9_no : R9 w none := fun _ h => by cases h
theorem R9_so {r : Int32 × MS} (h : k9 w r.2) : R9 w (some r) := fun _ e => by cases e; exact h
theorem R9_eq {a a' : Option (Int32 × MS)} (h1 : a = a') (h : R9 w a') : R9 w a := by rw [h1]; exact h
theorem R9_ob {x : Option (Int32 × MS)} {f : Int32 × MS → Option (Int32 × MS)} (h1 : R9 w x) (h2 : ∀ r, k9 w r.2 → R9 w (f r)) : R9 w (ob x f) := by
  intro r hr
  cases x with
  | none => cases hr
  | some s => exact h2 s (h1 s rfl) r hr
theorem R9_ite {p : Prop} {_ : Decidable p} {a b : Option (Int32 × MS)} (h1 : R9 w a) (h2 : R9 w b) : R9 w (if p then a else b) := by
  by_cases h : p
  · rw [if_pos h]; exact h1
  · rw [if_neg h]; exact h2
theorem R9_od {d : Nat} {f : Nat → Option (Int32 × MS)} (h : ∀ e, R9 w (f e)) : R9 w (od d f) := by
  cases d with
  | zero => exact R9_no
  | succ e => exact h e
theorem i9_fault : ∀ (k b : Nat) (L : Nat → Int32) (σ : MS), I42 w σ → J9 w (x_fault k b L σ) := by
  intro k
  induction k with
  | zero => intro b L σ _; exact J9_no
  | succ k ih =>
    intro b L σ h
    match b with
    | 0 =>
      refine J9_eq (by rw [x_fault]) ?_
      exact J9_ite (ih _ _ _ h) (ih _ _ _ h)
    | 1 =>
      refine J9_eq (by rw [x_fault]) ?_
      exact ih _ _ _ h
    | 2 =>
      refine J9_eq (by rw [x_fault]) ?_
      exact ih _ _ _ h
    | 3 =>
      refine J9_eq (by rw [x_fault]) ?_
      exact J9_so h
    | b + 4 =>
      exact J9_eq (by rw [x_fault]) J9_no
theorem i9_newSlot : ∀ (k b : Nat) (L : Nat → Int32) (σ : MS), I42 w σ → J9 w (x_newSlot k b L σ) := by
  intro k
  induction k with
  | zero => intro b L σ _; exact J9_no
  | succ k ih =>
    intro b L σ h
    match b with
    | 0 =>
      refine J9_eq (by rw [x_newSlot]) ?_
      exact J9_ite (J9_ite (J9_ob (i9_fault _ _ _ _ h) (fun _ h1 => J9_so h1)) (ih _ _ _ h)) J9_no
    | 1 =>
      refine J9_eq (by rw [x_newSlot]) ?_
      exact J9_ite (J9_ite (ih _ _ _ h) J9_no) J9_no
    | 2 =>
      refine J9_eq (by rw [x_newSlot]) ?_
      exact J9_ite (J9_ite (ih _ _ _ ⟨h.1, k9_21 (by rw [h.1]; decide) h.2⟩) J9_no) J9_no
    | 3 =>
      refine J9_eq (by rw [x_newSlot]) ?_
      exact J9_ite (J9_so h) J9_no
    | b + 4 => exact J9_eq (by rw [x_newSlot]) J9_no
theorem i9_isSign : ∀ (k b : Nat) (L : Nat → Int32) (σ : MS), I42 w σ → J9 w (x_isSign k b L σ) := by
  intro k
  induction k with
  | zero => intro b L σ _; exact J9_no
  | succ k ih =>
    intro b L σ h
    match b with
    | 0 =>
      refine J9_eq (by rw [x_isSign]) ?_
      exact J9_ite (J9_ite (ih _ _ _ h) (ih _ _ _ h)) (ih _ _ _ h)
    | 1 =>
      refine J9_eq (by rw [x_isSign]) ?_
      exact ih _ _ _ h
    | 2 =>
      refine J9_eq (by rw [x_isSign]) ?_
      exact J9_ite (J9_so h) (J9_no)
    | b + 3 =>
      exact J9_eq (by rw [x_isSign]) J9_no
theorem i9_open : ∀ (k b : Nat) (L : Nat → Int32) (σ : MS), I42 w σ → J9 w (x_open k b L σ) := by
  intro k
  induction k with
  | zero => intro b L σ _; exact J9_no
  | succ k ih =>
    intro b L σ h
    match b with
    | 0 =>
      refine J9_eq (by rw [x_open]) ?_
      exact J9_ite (J9_ob (i9_fault _ _ _ _ h) (fun _ h1 => ih _ _ _ h1)) (ih _ _ _ h)
    | 1 =>
      refine J9_eq (by rw [x_open]) ?_
      exact J9_so h
    | b + 2 =>
      exact J9_eq (by rw [x_open]) J9_no
theorem i9_byteAt : ∀ (k b : Nat) (L : Nat → Int32) (σ : MS), I42 w σ → J9 w (x_byteAt k b L σ) := by
  intro k
  induction k with
  | zero => intro b L σ _; exact J9_no
  | succ k ih =>
    intro b L σ h
    match b with
    | 0 =>
      refine J9_eq (by rw [x_byteAt]) ?_
      exact J9_ite (ih _ _ _ h) (J9_ite (ih _ _ _ h) (J9_no))
    | 1 =>
      refine J9_eq (by rw [x_byteAt]) ?_
      exact ih _ _ _ h
    | 2 =>
      refine J9_eq (by rw [x_byteAt]) ?_
      exact J9_so h
    | b + 3 =>
      exact J9_eq (by rw [x_byteAt]) J9_no
theorem i9_skip : ∀ (k b : Nat) (L : Nat → Int32) (σ : MS), I42 w σ → J9 w (x_skip k b L σ) := by
  intro k
  induction k with
  | zero => intro b L σ _; exact J9_no
  | succ k ih =>
    intro b L σ h
    match b with
    | 0 =>
      refine J9_eq (by rw [x_skip]) ?_
      exact ih _ _ _ h
    | 1 =>
      refine J9_eq (by rw [x_skip]) ?_
      exact J9_ite (ih _ _ _ h) (J9_ob (i9_byteAt _ _ _ _ h) (fun _ h2 => J9_ite (ih _ _ _ h2) (J9_ite (ih _ _ _ h2) (J9_ite (ih _ _ _ h2) (J9_ite (ih _ _ _ h2) (J9_ite (ih _ _ _ h2) (ih _ _ _ h2)))))))
    | 2 =>
      refine J9_eq (by rw [x_skip]) ?_
      exact ih _ _ _ h
    | 3 =>
      refine J9_eq (by rw [x_skip]) ?_
      exact J9_ite (J9_ob (i9_byteAt _ _ _ _ h) (fun _ h3 => J9_ite (ih _ _ _ h3) (ih _ _ _ h3))) (ih _ _ _ h)
    | 4 =>
      refine J9_eq (by rw [x_skip]) ?_
      exact J9_ite (ih _ _ _ h) (J9_ite (J9_ite (ih _ _ _ h) (ih _ _ _ h)) (J9_no))
    | 5 =>
      refine J9_eq (by rw [x_skip]) ?_
      exact ih _ _ _ h
    | 6 =>
      refine J9_eq (by rw [x_skip]) ?_
      exact ih _ _ _ h
    | 7 =>
      refine J9_eq (by rw [x_skip]) ?_
      exact J9_so h
    | b + 8 =>
      exact J9_eq (by rw [x_skip]) J9_no
theorem i9_isLetter : ∀ (k b : Nat) (L : Nat → Int32) (σ : MS), I42 w σ → J9 w (x_isLetter k b L σ) := by
  intro k
  induction k with
  | zero => intro b L σ _; exact J9_no
  | succ k ih =>
    intro b L σ h
    match b with
    | 0 =>
      refine J9_eq (by rw [x_isLetter]) ?_
      exact J9_ite (ih _ _ _ h) (J9_ite (ih _ _ _ h) (ih _ _ _ h))
    | 1 =>
      refine J9_eq (by rw [x_isLetter]) ?_
      exact J9_ite (ih _ _ _ h) (J9_ite (ih _ _ _ h) (ih _ _ _ h))
    | 2 =>
      refine J9_eq (by rw [x_isLetter]) ?_
      exact ih _ _ _ h
    | 3 =>
      refine J9_eq (by rw [x_isLetter]) ?_
      exact ih _ _ _ h
    | 4 =>
      refine J9_eq (by rw [x_isLetter]) ?_
      exact J9_ite (J9_so h) (J9_no)
    | b + 5 =>
      exact J9_eq (by rw [x_isLetter]) J9_no
theorem i9_isDigit : ∀ (k b : Nat) (L : Nat → Int32) (σ : MS), I42 w σ → J9 w (x_isDigit k b L σ) := by
  intro k
  induction k with
  | zero => intro b L σ _; exact J9_no
  | succ k ih =>
    intro b L σ h
    match b with
    | 0 =>
      refine J9_eq (by rw [x_isDigit]) ?_
      exact J9_ite (ih _ _ _ h) (J9_ite (ih _ _ _ h) (ih _ _ _ h))
    | 1 =>
      refine J9_eq (by rw [x_isDigit]) ?_
      exact ih _ _ _ h
    | 2 =>
      refine J9_eq (by rw [x_isDigit]) ?_
      exact J9_ite (J9_so h) (J9_no)
    | b + 3 =>
      exact J9_eq (by rw [x_isDigit]) J9_no
theorem i9_wordAt : ∀ (k b : Nat) (L : Nat → Int32) (σ : MS), I42 w σ → J9 w (x_wordAt k b L σ) := by
  intro k
  induction k with
  | zero => intro b L σ _; exact J9_no
  | succ k ih =>
    intro b L σ h
    match b with
    | 0 =>
      refine J9_eq (by rw [x_wordAt]) ?_
      exact ih _ _ _ h
    | 1 =>
      refine J9_eq (by rw [x_wordAt]) ?_
      exact J9_ite (ih _ _ _ h) (ih _ _ _ h)
    | 2 =>
      refine J9_eq (by rw [x_wordAt]) ?_
      exact J9_ite (ih _ _ _ h) (J9_ite (J9_ite (J9_ite (ih _ _ _ h) (ih _ _ _ h)) (J9_no)) (J9_no))
    | 3 =>
      refine J9_eq (by rw [x_wordAt]) ?_
      exact J9_ite (J9_ite (J9_ite (J9_so h) (ih _ _ _ h)) (J9_no)) (ih _ _ _ h)
    | 4 =>
      refine J9_eq (by rw [x_wordAt]) ?_
      exact J9_ite (J9_ite (ih _ _ _ h) (ih _ _ _ h)) (J9_no)
    | 5 =>
      refine J9_eq (by rw [x_wordAt]) ?_
      exact ih _ _ _ h
    | 6 =>
      refine J9_eq (by rw [x_wordAt]) ?_
      exact J9_so h
    | b + 7 =>
      exact J9_eq (by rw [x_wordAt]) J9_no
theorem i9_sign : ∀ (k b : Nat) (L : Nat → Int32) (σ : MS), I42 w σ → J9 w (x_sign k b L σ) := by
  intro k
  induction k with
  | zero => intro b L σ _; exact J9_no
  | succ k ih =>
    intro b L σ h
    match b with
    | 0 =>
      refine J9_eq (by rw [x_sign]) ?_
      exact J9_ite (ih _ _ _ h) (J9_ite (ih _ _ _ h) (J9_ite (ih _ _ _ h) (J9_ite (ih _ _ _ h) (J9_ite (ih _ _ _ h) (J9_ite (ih _ _ _ h) (J9_ite (ih _ _ _ h) (J9_ite (ih _ _ _ h) (J9_ite (ih _ _ _ h) (J9_ite (ih _ _ _ h) (J9_ite (ih _ _ _ h) (J9_ite (ih _ _ _ h) (J9_ite (ih _ _ _ h) (J9_ite (ih _ _ _ h) (J9_ite (ih _ _ _ h) (J9_ite (ih _ _ _ h) (J9_ite (ih _ _ _ h) (J9_ite (ih _ _ _ h) (J9_ite (ih _ _ _ h) (ih _ _ _ h)))))))))))))))))))
    | 1 =>
      refine J9_eq (by rw [x_sign]) ?_
      exact J9_ite (ih _ _ _ h) (ih _ _ _ h)
    | 2 =>
      refine J9_eq (by rw [x_sign]) ?_
      exact ih _ _ _ h
    | 3 =>
      refine J9_eq (by rw [x_sign]) ?_
      exact J9_so h
    | 4 =>
      refine J9_eq (by rw [x_sign]) ?_
      exact J9_so h
    | 5 =>
      refine J9_eq (by rw [x_sign]) ?_
      exact J9_so h
    | 6 =>
      refine J9_eq (by rw [x_sign]) ?_
      exact J9_ite (ih _ _ _ h) (ih _ _ _ h)
    | 7 =>
      refine J9_eq (by rw [x_sign]) ?_
      exact ih _ _ _ h
    | 8 =>
      refine J9_eq (by rw [x_sign]) ?_
      exact J9_so h
    | 9 =>
      refine J9_eq (by rw [x_sign]) ?_
      exact J9_so h
    | 10 =>
      refine J9_eq (by rw [x_sign]) ?_
      exact J9_so h
    | 11 =>
      refine J9_eq (by rw [x_sign]) ?_
      exact J9_so h
    | 12 =>
      refine J9_eq (by rw [x_sign]) ?_
      exact J9_so h
    | 13 =>
      refine J9_eq (by rw [x_sign]) ?_
      exact J9_so h
    | 14 =>
      refine J9_eq (by rw [x_sign]) ?_
      exact J9_so h
    | 15 =>
      refine J9_eq (by rw [x_sign]) ?_
      exact J9_so h
    | 16 =>
      refine J9_eq (by rw [x_sign]) ?_
      exact J9_so h
    | 17 =>
      refine J9_eq (by rw [x_sign]) ?_
      exact J9_so h
    | 18 =>
      refine J9_eq (by rw [x_sign]) ?_
      exact J9_ite (ih _ _ _ h) (ih _ _ _ h)
    | 19 =>
      refine J9_eq (by rw [x_sign]) ?_
      exact ih _ _ _ h
    | 20 =>
      refine J9_eq (by rw [x_sign]) ?_
      exact J9_so h
    | 21 =>
      refine J9_eq (by rw [x_sign]) ?_
      exact J9_so h
    | 22 =>
      refine J9_eq (by rw [x_sign]) ?_
      exact J9_ite (ih _ _ _ h) (ih _ _ _ h)
    | 23 =>
      refine J9_eq (by rw [x_sign]) ?_
      exact ih _ _ _ h
    | 24 =>
      refine J9_eq (by rw [x_sign]) ?_
      exact J9_so h
    | 25 =>
      refine J9_eq (by rw [x_sign]) ?_
      exact J9_ite (ih _ _ _ h) (ih _ _ _ h)
    | 26 =>
      refine J9_eq (by rw [x_sign]) ?_
      exact ih _ _ _ h
    | 27 =>
      refine J9_eq (by rw [x_sign]) ?_
      exact J9_so h
    | 28 =>
      refine J9_eq (by rw [x_sign]) ?_
      exact J9_ite (ih _ _ _ h) (ih _ _ _ h)
    | 29 =>
      refine J9_eq (by rw [x_sign]) ?_
      exact ih _ _ _ h
    | 30 =>
      refine J9_eq (by rw [x_sign]) ?_
      exact J9_so h
    | 31 =>
      refine J9_eq (by rw [x_sign]) ?_
      exact J9_so h
    | 32 =>
      refine J9_eq (by rw [x_sign]) ?_
      exact J9_so h
    | b + 33 =>
      exact J9_eq (by rw [x_sign]) J9_no
theorem i9_take : ∀ (k b : Nat) (L : Nat → Int32) (σ : MS), I42 w σ → J9 w (x_take k b L σ) := by
  intro k
  induction k with
  | zero => intro b L σ _; exact J9_no
  | succ k ih =>
    intro b L σ h
    match b with
    | 0 =>
      refine J9_eq (by rw [x_take]) ?_
      exact J9_ob (i9_skip _ _ _ _ h) (fun _ h4 => ih _ _ _ h4)
    | 1 =>
      refine J9_eq (by rw [x_take]) ?_
      exact J9_ite (ih _ _ _ h) (ih _ _ _ h)
    | 2 =>
      refine J9_eq (by rw [x_take]) ?_
      exact J9_ob (i9_byteAt _ _ _ _ h) (fun _ h5 => J9_ob (i9_isLetter _ _ _ _ h5) (fun _ h6 => J9_ite (ih _ _ _ h6) (ih _ _ _ h6)))
    | 3 =>
      refine J9_eq (by rw [x_take]) ?_
      exact J9_ob (i9_byteAt _ _ _ _ h) (fun _ h7 => J9_ob (i9_isLetter _ _ _ _ h7) (fun _ h8 => J9_ite (J9_ob (i9_byteAt _ _ _ _ h8) (fun _ h9 => J9_ob (i9_isDigit _ _ _ _ h9) (fun _ h10 => J9_ite (J9_ob (i9_byteAt _ _ _ _ h10) (fun _ h11 => J9_ite (ih _ _ _ h11) (ih _ _ _ h11))) (ih _ _ _ h10)))) (ih _ _ _ h8)))
    | 4 =>
      refine J9_eq (by rw [x_take]) ?_
      exact ih _ _ _ h
    | 5 =>
      refine J9_eq (by rw [x_take]) ?_
      exact J9_ob (i9_wordAt _ _ _ _ h) (fun _ h12 => ih _ _ _ h12)
    | 6 =>
      refine J9_eq (by rw [x_take]) ?_
      exact J9_ite (ih _ _ _ h) (ih _ _ _ h)
    | 7 =>
      refine J9_eq (by rw [x_take]) ?_
      exact J9_ite (ih _ _ _ h) (ih _ _ _ h)
    | 8 =>
      refine J9_eq (by rw [x_take]) ?_
      exact ih _ _ _ h
    | 9 =>
      refine J9_eq (by rw [x_take]) ?_
      exact ih _ _ _ h
    | 10 =>
      refine J9_eq (by rw [x_take]) ?_
      exact J9_ob (i9_byteAt _ _ _ _ h) (fun _ h13 => J9_ob (i9_isDigit _ _ _ _ h13) (fun _ h14 => J9_ite (ih _ _ _ h14) (ih _ _ _ h14)))
    | 11 =>
      refine J9_eq (by rw [x_take]) ?_
      exact J9_ob (i9_byteAt _ _ _ _ h) (fun _ h15 => J9_ob (i9_isDigit _ _ _ _ h15) (fun _ h16 => J9_ite (ih _ _ _ h16) (ih _ _ _ h16)))
    | 12 =>
      refine J9_eq (by rw [x_take]) ?_
      exact J9_ite (ih _ _ _ h) (ih _ _ _ h)
    | 13 =>
      refine J9_eq (by rw [x_take]) ?_
      exact ih _ _ _ h
    | 14 =>
      refine J9_eq (by rw [x_take]) ?_
      exact ih _ _ _ h
    | 15 =>
      refine J9_eq (by rw [x_take]) ?_
      exact J9_ob (i9_byteAt _ _ _ _ h) (fun _ h17 => J9_ite (ih _ _ _ h17) (ih _ _ _ h17))
    | 16 =>
      refine J9_eq (by rw [x_take]) ?_
      exact J9_ite (ih _ _ _ h) (J9_ite (J9_ite (ih _ _ _ h) (J9_ite (J9_ite (ih _ _ _ h) (ih _ _ _ h)) (J9_no))) (J9_no))
    | 17 =>
      refine J9_eq (by rw [x_take]) ?_
      exact J9_ite (ih _ _ _ h) (J9_ite (J9_ite (ih _ _ _ h) (ih _ _ _ h)) (J9_no))
    | 18 =>
      refine J9_eq (by rw [x_take]) ?_
      exact ih _ _ _ h
    | 19 =>
      refine J9_eq (by rw [x_take]) ?_
      exact J9_ite (ih _ _ _ h) (J9_ite (ih _ _ _ h) (ih _ _ _ h))
    | 20 =>
      refine J9_eq (by rw [x_take]) ?_
      exact ih _ _ _ h
    | 21 =>
      refine J9_eq (by rw [x_take]) ?_
      exact ih _ _ _ h
    | 22 =>
      refine J9_eq (by rw [x_take]) ?_
      exact J9_ite (ih _ _ _ h) (ih _ _ _ h)
    | 23 =>
      refine J9_eq (by rw [x_take]) ?_
      exact ih _ _ _ h
    | 24 =>
      refine J9_eq (by rw [x_take]) ?_
      exact ih _ _ _ h
    | 25 =>
      refine J9_eq (by rw [x_take]) ?_
      exact J9_ob (i9_byteAt _ _ _ _ h) (fun _ h18 => J9_ob (i9_byteAt _ _ _ _ h18) (fun _ h19 => J9_ob (i9_sign _ _ _ _ h19) (fun _ h20 => ih _ _ _ h20)))
    | 26 =>
      refine J9_eq (by rw [x_take]) ?_
      exact J9_ite (ih _ _ _ h) (ih _ _ _ h)
    | 27 =>
      refine J9_eq (by rw [x_take]) ?_
      exact ih _ _ _ h
    | 28 =>
      refine J9_eq (by rw [x_take]) ?_
      exact ih _ _ _ h
    | 29 =>
      refine J9_eq (by rw [x_take]) ?_
      exact J9_ite (ih _ _ _ h) (J9_ite (ih _ _ _ h) (J9_ite (ih _ _ _ h) (J9_ite (ih _ _ _ h) (J9_ite (ih _ _ _ h) (J9_ite (ih _ _ _ h) (ih _ _ _ h))))))
    | 30 =>
      refine J9_eq (by rw [x_take]) ?_
      exact ih _ _ _ h
    | 31 =>
      refine J9_eq (by rw [x_take]) ?_
      exact ih _ _ _ h
    | 32 =>
      refine J9_eq (by rw [x_take]) ?_
      exact ih _ _ _ h
    | 33 =>
      refine J9_eq (by rw [x_take]) ?_
      exact ih _ _ _ h
    | 34 =>
      refine J9_eq (by rw [x_take]) ?_
      exact J9_ite (J9_ob (i9_fault _ _ _ _ h) (fun _ h21 => ih _ _ _ h21)) (ih _ _ _ h)
    | 35 =>
      refine J9_eq (by rw [x_take]) ?_
      exact J9_so h
    | b + 36 =>
      exact J9_eq (by rw [x_take]) J9_no
theorem i9_node : ∀ (k b : Nat) (L : Nat → Int32) (σ : MS), I42 w σ → J9 w (x_node k b L σ) := by
  intro k
  induction k with
  | zero => intro b L σ _; exact J9_no
  | succ k ih =>
    intro b L σ h
    match b with
    | 0 =>
      refine J9_eq (by rw [x_node]) ?_
      exact ih _ _ _ h
    | 1 =>
      refine J9_eq (by rw [x_node]) ?_
      exact J9_ite (ih _ _ _ h) (J9_no)
    | 2 =>
      refine J9_eq (by rw [x_node]) ?_
      exact J9_ite (ih _ _ _ h) (J9_no)
    | 3 =>
      refine J9_eq (by rw [x_node]) ?_
      exact J9_ite (ih _ _ _ h) (J9_no)
    | 4 =>
      refine J9_eq (by rw [x_node]) ?_
      exact J9_ite (ih _ _ _ h) (J9_no)
    | 5 =>
      refine J9_eq (by rw [x_node]) ?_
      exact J9_ite (ih _ _ _ h) (J9_no)
    | 6 =>
      refine J9_eq (by rw [x_node]) ?_
      exact J9_ite (ih _ _ _ h) (J9_no)
    | 7 =>
      refine J9_eq (by rw [x_node]) ?_
      exact J9_so h
    | b + 8 =>
      exact J9_eq (by rw [x_node]) J9_no
theorem i9_isWord : ∀ (k b : Nat) (L : Nat → Int32) (σ : MS), I42 w σ → J9 w (x_isWord k b L σ) := by
  intro k
  induction k with
  | zero => intro b L σ _; exact J9_no
  | succ k ih =>
    intro b L σ h
    match b with
    | 0 =>
      refine J9_eq (by rw [x_isWord]) ?_
      exact J9_ite (J9_ite (ih _ _ _ h) (ih _ _ _ h)) (ih _ _ _ h)
    | 1 =>
      refine J9_eq (by rw [x_isWord]) ?_
      exact ih _ _ _ h
    | 2 =>
      refine J9_eq (by rw [x_isWord]) ?_
      exact J9_ite (J9_so h) (J9_no)
    | b + 3 =>
      exact J9_eq (by rw [x_isWord]) J9_no
theorem i9_cannot : ∀ (k b : Nat) (L : Nat → Int32) (σ : MS), I42 w σ → J9 w (x_cannot k b L σ) := by
  intro k
  induction k with
  | zero => intro b L σ _; exact J9_no
  | succ k ih =>
    intro b L σ h
    match b with
    | 0 =>
      refine J9_eq (by rw [x_cannot]) ?_
      exact J9_ob (i9_fault _ _ _ _ h) (fun _ h22 => J9_so h22)
    | b + 1 =>
      exact J9_eq (by rw [x_cannot]) J9_no
theorem i9_want : ∀ (k b : Nat) (L : Nat → Int32) (σ : MS), I42 w σ → J9 w (x_want k b L σ) := by
  intro k
  induction k with
  | zero => intro b L σ _; exact J9_no
  | succ k ih =>
    intro b L σ h
    match b with
    | 0 =>
      refine J9_eq (by rw [x_want]) ?_
      exact J9_ite (J9_ob (i9_isSign _ _ _ _ h) (fun _ h23 => J9_ite (J9_ob (i9_cannot _ _ _ _ h23) (fun _ h24 => ih _ _ _ h24)) (ih _ _ _ h23))) (ih _ _ _ h)
    | 1 =>
      refine J9_eq (by rw [x_want]) ?_
      exact J9_ite (J9_ob (i9_take _ _ _ _ h) (fun _ h25 => ih _ _ _ h25)) (ih _ _ _ h)
    | 2 =>
      refine J9_eq (by rw [x_want]) ?_
      exact J9_so h
    | b + 3 =>
      exact J9_eq (by rw [x_want]) J9_no
theorem i9_wrapped : ∀ (k b : Nat) (L : Nat → Int32) (σ : MS), I42 w σ → J9 w (x_wrapped k b L σ) := by
  intro k
  induction k with
  | zero => intro b L σ _; exact J9_no
  | succ k ih =>
    intro b L σ h
    match b with
    | 0 =>
      refine J9_eq (by rw [x_wrapped]) ?_
      exact J9_ob (i9_node _ _ _ _ h) (fun _ h26 => J9_ite (ih _ _ _ h26) (J9_no))
    | 1 =>
      refine J9_eq (by rw [x_wrapped]) ?_
      exact J9_so h
    | b + 2 =>
      exact J9_eq (by rw [x_wrapped]) J9_no
theorem i9_wantWord : ∀ (k b : Nat) (L : Nat → Int32) (σ : MS), I42 w σ → J9 w (x_wantWord k b L σ) := by
  intro k
  induction k with
  | zero => intro b L σ _; exact J9_no
  | succ k ih =>
    intro b L σ h
    match b with
    | 0 =>
      refine J9_eq (by rw [x_wantWord]) ?_
      exact J9_ite (J9_ob (i9_isWord _ _ _ _ h) (fun _ h27 => J9_ite (J9_ob (i9_cannot _ _ _ _ h27) (fun _ h28 => ih _ _ _ h28)) (ih _ _ _ h27))) (ih _ _ _ h)
    | 1 =>
      refine J9_eq (by rw [x_wantWord]) ?_
      exact J9_ite (J9_ob (i9_take _ _ _ _ h) (fun _ h29 => ih _ _ _ h29)) (ih _ _ _ h)
    | 2 =>
      refine J9_eq (by rw [x_wantWord]) ?_
      exact J9_so h
    | b + 3 =>
      exact J9_eq (by rw [x_wantWord]) J9_no
theorem i9_over : ∀ (k b : Nat) (L : Nat → Int32) (σ : MS), I42 w σ → J9 w (x_over k b L σ) := by
  intro k
  induction k with
  | zero => intro b L σ _; exact J9_no
  | succ k ih =>
    intro b L σ h
    match b with
    | 0 =>
      refine J9_eq (by rw [x_over]) ?_
      exact J9_ob (i9_node _ _ _ _ h) (fun _ h30 => J9_ite (ih _ _ _ h30) (J9_no))
    | 1 =>
      refine J9_eq (by rw [x_over]) ?_
      exact J9_so h
    | b + 2 =>
      exact J9_eq (by rw [x_over]) J9_no
theorem i9_wantName : ∀ (k b : Nat) (L : Nat → Int32) (σ : MS), I42 w σ → J9 w (x_wantName k b L σ) := by
  intro k
  induction k with
  | zero => intro b L σ _; exact J9_no
  | succ k ih =>
    intro b L σ h
    match b with
    | 0 =>
      refine J9_eq (by rw [x_wantName]) ?_
      exact J9_ite (J9_ite (ih _ _ _ h) (J9_ob (i9_cannot _ _ _ _ h) (fun _ h31 => ih _ _ _ h31))) (ih _ _ _ h)
    | 1 =>
      refine J9_eq (by rw [x_wantName]) ?_
      exact J9_so h
    | b + 2 =>
      exact J9_eq (by rw [x_wantName]) J9_no
theorem i9_isNamed : ∀ (k b : Nat) (L : Nat → Int32) (σ : MS), I42 w σ → J9 w (x_isNamed k b L σ) := by
  intro k
  induction k with
  | zero => intro b L σ _; exact J9_no
  | succ k ih =>
    intro b L σ h
    match b with
    | 0 =>
      refine J9_eq (by rw [x_isNamed]) ?_
      exact J9_ite (ih _ _ _ h) (J9_so h)
    | 1 =>
      refine J9_eq (by rw [x_isNamed]) ?_
      exact ih _ _ _ h
    | 2 =>
      refine J9_eq (by rw [x_isNamed]) ?_
      exact J9_ite (ih _ _ _ h) (J9_ite (J9_ite (J9_ite (ih _ _ _ h) (J9_so h)) (J9_no)) (J9_no))
    | 3 =>
      refine J9_eq (by rw [x_isNamed]) ?_
      exact ih _ _ _ h
    | 4 =>
      refine J9_eq (by rw [x_isNamed]) ?_
      exact J9_so h
    | b + 5 =>
      exact J9_eq (by rw [x_isNamed]) J9_no
theorem i9_keep : ∀ (k b : Nat) (L : Nat → Int32) (σ : MS), I42 w σ → J9 w (x_keep k b L σ) := by
  intro k
  induction k with
  | zero => intro b L σ _; exact J9_no
  | succ k ih =>
    intro b L σ h
    match b with
    | 0 =>
      refine J9_eq (by rw [x_keep]) ?_
      exact ih _ _ _ h
    | 1 =>
      refine J9_eq (by rw [x_keep]) ?_
      exact J9_ite (ih _ _ _ h) (J9_ite (J9_ite (ih _ _ _ h) (J9_no)) (J9_no))
    | 2 =>
      refine J9_eq (by rw [x_keep]) ?_
      exact ih _ _ _ h
    | 3 =>
      refine J9_eq (by rw [x_keep]) ?_
      exact ih _ _ _ h
    | 4 =>
      refine J9_eq (by rw [x_keep]) ?_
      exact J9_so h
    | b + 5 =>
      exact J9_eq (by rw [x_keep]) J9_no
theorem i9_tellName : ∀ (k b : Nat) (L : Nat → Int32) (σ : MS), I42 w σ → J9 w (x_tellName k b L σ) := by
  intro k
  induction k with
  | zero => intro b L σ _; exact J9_no
  | succ k ih =>
    intro b L σ h
    match b with
    | 0 =>
      refine J9_eq (by rw [x_tellName]) ?_
      exact J9_ob (i9_wantName _ _ _ _ h) (fun _ h32 => J9_ite (ih _ _ _ h32) (J9_so h32))
    | 1 =>
      refine J9_eq (by rw [x_tellName]) ?_
      exact ih _ _ _ h
    | 2 =>
      refine J9_eq (by rw [x_tellName]) ?_
      exact J9_ite (ih _ _ _ h) (J9_ite (J9_ite (J9_ob (i9_isNamed _ _ _ _ h) (fun _ h33 => J9_ite (ih _ _ _ h33) (J9_ob (i9_fault _ _ _ _ h33) (fun _ h34 => ih _ _ _ h34)))) (J9_no)) (J9_no))
    | 3 =>
      refine J9_eq (by rw [x_tellName]) ?_
      exact ih _ _ _ h
    | 4 =>
      refine J9_eq (by rw [x_tellName]) ?_
      exact J9_ite (ih _ _ _ h) (ih _ _ _ h)
    | 5 =>
      refine J9_eq (by rw [x_tellName]) ?_
      exact J9_ob (i9_newSlot _ _ _ _ h) (fun _ h35 => ih _ _ _ h35)
    | 6 =>
      refine J9_eq (by rw [x_tellName]) ?_
      exact J9_ite (ih _ _ _ h) (J9_so h)
    | 7 =>
      refine J9_eq (by rw [x_tellName]) ?_
      exact J9_ob (i9_keep _ _ _ _ h) (fun _ h36 => J9_ite (ih _ _ _ h36) (J9_no))
    | 8 =>
      refine J9_eq (by rw [x_tellName]) ?_
      exact J9_ite (ih _ _ _ h) (J9_no)
    | 9 =>
      refine J9_eq (by rw [x_tellName]) ?_
      exact J9_ite (ih _ _ _ h) (J9_no)
    | 10 =>
      refine J9_eq (by rw [x_tellName]) ?_
      exact ih _ _ _ h
    | 11 =>
      refine J9_eq (by rw [x_tellName]) ?_
      exact J9_ite (ih _ _ _ h) (ih _ _ _ h)
    | 12 =>
      refine J9_eq (by rw [x_tellName]) ?_
      exact ih _ _ _ h
    | 13 =>
      refine J9_eq (by rw [x_tellName]) ?_
      exact J9_ob (i9_node _ _ _ _ h) (fun _ h37 => J9_ob (i9_take _ _ _ _ h37) (fun _ h38 => J9_so h38))
    | b + 14 =>
      exact J9_eq (by rw [x_tellName]) J9_no
theorem i9_pattern : ∀ (k b : Nat) (L : Nat → Int32) (σ : MS), I42 w σ → J9 w (x_pattern k b L σ) := by
  intro k
  induction k with
  | zero => intro b L σ _; exact J9_no
  | succ k ih =>
    intro b L σ h
    match b with
    | 0 =>
      refine J9_eq (by rw [x_pattern]) ?_
      exact J9_ob (i9_open _ _ _ _ h) (fun _ h39 => J9_ite (J9_ob (i9_take _ _ _ _ h39) (fun _ h40 => ih _ _ _ h40)) (ih _ _ _ h39))
    | 1 =>
      refine J9_eq (by rw [x_pattern]) ?_
      exact J9_ob (i9_tellName _ _ _ _ h) (fun _ h41 => ih _ _ _ h41)
    | 2 =>
      refine J9_eq (by rw [x_pattern]) ?_
      exact J9_ite (J9_ob (i9_isSign _ _ _ _ h) (fun _ h42 => J9_ite (ih _ _ _ h42) (J9_ob (i9_take _ _ _ _ h42) (fun _ h43 => J9_ob (i9_tellName _ _ _ _ h43) (fun _ h44 => J9_ite (J9_ite (ih _ _ _ h44) (J9_no)) (ih _ _ _ h44)))))) (ih _ _ _ h)
    | 3 =>
      refine J9_eq (by rw [x_pattern]) ?_
      exact ih _ _ _ h
    | 4 =>
      refine J9_eq (by rw [x_pattern]) ?_
      exact ih _ _ _ h
    | 5 =>
      refine J9_eq (by rw [x_pattern]) ?_
      exact J9_ob (i9_want _ _ _ _ h) (fun _ h45 => ih _ _ _ h45)
    | 6 =>
      refine J9_eq (by rw [x_pattern]) ?_
      exact J9_so h
    | b + 7 =>
      exact J9_eq (by rw [x_pattern]) J9_no
theorem i9_see : ∀ (k b : Nat) (L : Nat → Int32) (σ : MS), I42 w σ → J9 w (x_see k b L σ) := by
  intro k
  induction k with
  | zero => intro b L σ _; exact J9_no
  | succ k ih =>
    intro b L σ h
    match b with
    | 0 =>
      refine J9_eq (by rw [x_see]) ?_
      exact J9_ite (ih _ _ _ h) (J9_no)
    | 1 =>
      refine J9_eq (by rw [x_see]) ?_
      exact J9_ite (ih _ _ _ h) (J9_no)
    | 2 =>
      refine J9_eq (by rw [x_see]) ?_
      exact J9_ite (ih _ _ _ h) (J9_no)
    | 3 =>
      refine J9_eq (by rw [x_see]) ?_
      exact J9_so h
    | b + 4 =>
      exact J9_eq (by rw [x_see]) J9_no
theorem i9_find : ∀ (k b : Nat) (L : Nat → Int32) (σ : MS), I42 w σ → J9 w (x_find k b L σ) := by
  intro k
  induction k with
  | zero => intro b L σ _; exact J9_no
  | succ k ih =>
    intro b L σ h
    match b with
    | 0 =>
      refine J9_eq (by rw [x_find]) ?_
      exact ih _ _ _ h
    | 1 =>
      refine J9_eq (by rw [x_find]) ?_
      exact ih _ _ _ h
    | 2 =>
      refine J9_eq (by rw [x_find]) ?_
      exact J9_ite (ih _ _ _ h) (J9_ite (J9_ite (J9_ob (i9_isNamed _ _ _ _ h) (fun _ h46 => J9_ite (ih _ _ _ h46) (ih _ _ _ h46))) (J9_no)) (J9_no))
    | 3 =>
      refine J9_eq (by rw [x_find]) ?_
      exact J9_ite (ih _ _ _ h) (J9_no)
    | 4 =>
      refine J9_eq (by rw [x_find]) ?_
      exact J9_ite (ih _ _ _ h) (ih _ _ _ h)
    | 5 =>
      refine J9_eq (by rw [x_find]) ?_
      exact ih _ _ _ h
    | 6 =>
      refine J9_eq (by rw [x_find]) ?_
      exact J9_ite (J9_so h) (J9_no)
    | 7 =>
      refine J9_eq (by rw [x_find]) ?_
      exact ih _ _ _ h
    | 8 =>
      refine J9_eq (by rw [x_find]) ?_
      exact ih _ _ _ h
    | 9 =>
      refine J9_eq (by rw [x_find]) ?_
      exact J9_ite (ih _ _ _ h) (J9_ite (J9_ite (J9_ob (i9_isNamed _ _ _ _ h) (fun _ h47 => J9_ite (ih _ _ _ h47) (J9_ite (ih _ _ _ h47) (J9_no)))) (J9_no)) (J9_no))
    | 10 =>
      refine J9_eq (by rw [x_find]) ?_
      exact J9_ite (ih _ _ _ h) (J9_no)
    | 11 =>
      refine J9_eq (by rw [x_find]) ?_
      exact J9_so h
    | 12 =>
      refine J9_eq (by rw [x_find]) ?_
      exact ih _ _ _ h
    | 13 =>
      refine J9_eq (by rw [x_find]) ?_
      exact J9_so h
    | b + 14 =>
      exact J9_eq (by rw [x_find]) J9_no
theorem i9_operator : ∀ (k b : Nat) (L : Nat → Int32) (σ : MS), I42 w σ → J9 w (x_operator k b L σ) := by
  intro k
  induction k with
  | zero => intro b L σ _; exact J9_no
  | succ k ih =>
    intro b L σ h
    match b with
    | 0 =>
      refine J9_eq (by rw [x_operator]) ?_
      exact J9_ite (ih _ _ _ h) (ih _ _ _ h)
    | 1 =>
      refine J9_eq (by rw [x_operator]) ?_
      exact ih _ _ _ h
    | 2 =>
      refine J9_eq (by rw [x_operator]) ?_
      exact J9_so h
    | b + 3 =>
      exact J9_eq (by rw [x_operator]) J9_no
theorem i9_isRelation : ∀ (k b : Nat) (L : Nat → Int32) (σ : MS), I42 w σ → J9 w (x_isRelation k b L σ) := by
  intro k
  induction k with
  | zero => intro b L σ _; exact J9_no
  | succ k ih =>
    intro b L σ h
    match b with
    | 0 =>
      refine J9_eq (by rw [x_isRelation]) ?_
      exact J9_ite (J9_ite (ih _ _ _ h) (J9_ite (ih _ _ _ h) (ih _ _ _ h))) (ih _ _ _ h)
    | 1 =>
      refine J9_eq (by rw [x_isRelation]) ?_
      exact J9_ob (i9_isWord _ _ _ _ h) (fun _ h48 => J9_ite (J9_ob (i9_isWord _ _ _ _ h48) (fun _ h49 => J9_ite (J9_ob (i9_isWord _ _ _ _ h49) (fun _ h50 => J9_ite (ih _ _ _ h50) (ih _ _ _ h50))) (ih _ _ _ h49))) (ih _ _ _ h48))
    | 2 =>
      refine J9_eq (by rw [x_isRelation]) ?_
      exact ih _ _ _ h
    | 3 =>
      refine J9_eq (by rw [x_isRelation]) ?_
      exact ih _ _ _ h
    | 4 =>
      refine J9_eq (by rw [x_isRelation]) ?_
      exact J9_ite (J9_so h) (J9_no)
    | b + 5 =>
      exact J9_eq (by rw [x_isRelation]) J9_no
theorem i9_named : ∀ (k b : Nat) (L : Nat → Int32) (σ : MS), I42 w σ → J9 w (x_named k b L σ) := by
  intro k
  induction k with
  | zero => intro b L σ _; exact J9_no
  | succ k ih =>
    intro b L σ h
    match b with
    | 0 =>
      refine J9_eq (by rw [x_named]) ?_
      exact J9_ob (i9_node _ _ _ _ h) (fun _ h51 => J9_ob (i9_take _ _ _ _ h51) (fun _ h52 => J9_so h52))
    | b + 1 =>
      exact J9_eq (by rw [x_named]) J9_no
theorem i9_s_brackets {X : Nat → Nat → Nat → (Nat → Int32) → MS → Option (Int32 × MS)} (hX : ∀ e m b L (σ : MS), I42 w σ → J9 w (X e m b L σ)) (k d b : Nat) (L : Nat → Int32) (σ : MS) (h : I42 w σ) : J9 w (s_brackets X k d b L σ) := by
  match b with
  | 0 => exact J9_ob (i9_isSign _ _ _ _ h) (fun _ h53 => J9_ite (hX _ _ _ _ _ h53) (hX _ _ _ _ _ h53))
  | 1 => exact hX _ _ _ _ _ h
  | 2 => exact J9_ite (hX _ _ _ _ _ h) (hX _ _ _ _ _ h)
  | 3 => exact hX _ _ _ _ _ h
  | 4 => exact J9_ob (i9_open _ _ _ _ h) (fun _ h54 => J9_ite (J9_ob (i9_take _ _ _ _ h54) (fun _ h55 => hX _ _ _ _ _ h55)) (hX _ _ _ _ _ h54))
  | 5 => exact J9_ite (hX _ _ _ _ _ h) (J9_so h)
  | 6 => exact J9_ob (i9_isSign _ _ _ _ h) (fun _ h56 => J9_ite (hX _ _ _ _ _ h56) (J9_ite (hX _ _ _ _ _ h56) (hX _ _ _ _ _ h56)))
  | 7 => exact hX _ _ _ _ _ h
  | 8 => exact J9_ob (i9_node _ _ _ _ h) (fun _ h57 => hX _ _ _ _ _ h57)
  | 9 => exact J9_ob (i9_isWord _ _ _ _ h) (fun _ h58 => J9_ite (hX _ _ _ _ _ h58) (J9_ob (i9_take _ _ _ _ h58) (fun _ h59 => J9_od (fun _ => J9_ob (hX _ _ _ _ _ h59) (fun _ h60 => J9_ite (J9_ob (i9_isSign _ _ _ _ h60) (fun _ h61 => J9_ite (hX _ _ _ _ _ h61) (J9_ob (i9_take _ _ _ _ h61) (fun _ h62 => J9_od (fun _ => J9_ob (hX _ _ _ _ _ h62) (fun _ h63 => hX _ _ _ _ _ h63)))))) (hX _ _ _ _ _ h60))))))
  | 10 => exact J9_ob (i9_want _ _ _ _ h) (fun _ h64 => J9_od (fun _ => J9_ob (hX _ _ _ _ _ h64) (fun _ h65 => J9_ob (i9_wrapped _ _ _ _ h65) (fun _ h66 => hX _ _ _ _ _ h66))))
  | 11 => exact J9_od (fun _ => J9_ob (hX _ _ _ _ _ h) (fun _ h67 => hX _ _ _ _ _ h67))
  | 12 => exact J9_ob (i9_want _ _ _ _ h) (fun _ h68 => hX _ _ _ _ _ h68)
  | 13 => exact J9_so h
  | b + 14 => exact J9_no
theorem i9_s_choice {X : Nat → Nat → Nat → (Nat → Int32) → MS → Option (Int32 × MS)} (hX : ∀ e m b L (σ : MS), I42 w σ → J9 w (X e m b L σ)) (k d b : Nat) (L : Nat → Int32) (σ : MS) (h : I42 w σ) : J9 w (s_choice X k d b L σ) := by
  match b with
  | 0 => exact J9_ob (i9_open _ _ _ _ h) (fun _ h69 => J9_ite (J9_ob (i9_take _ _ _ _ h69) (fun _ h70 => hX _ _ _ _ _ h70)) (hX _ _ _ _ _ h69))
  | 1 => exact J9_od (fun _ => J9_ob (hX _ _ _ _ _ h) (fun _ h71 => J9_ob (i9_wantWord _ _ _ _ h71) (fun _ h72 => J9_od (fun _ => J9_ob (hX _ _ _ _ _ h72) (fun _ h73 => J9_ob (i9_node _ _ _ _ h73) (fun _ h74 => hX _ _ _ _ _ h74))))))
  | 2 => exact J9_ite (J9_ob (i9_isWord _ _ _ _ h) (fun _ h75 => J9_ite (hX _ _ _ _ _ h75) (J9_ob (i9_take _ _ _ _ h75) (fun _ h76 => J9_od (fun _ => J9_ob (hX _ _ _ _ _ h76) (fun _ h77 => J9_ob (i9_wantWord _ _ _ _ h77) (fun _ h78 => J9_od (fun _ => J9_ob (hX _ _ _ _ _ h78) (fun _ h79 => J9_ob (i9_node _ _ _ _ h79) (fun _ h80 => J9_ite (hX _ _ _ _ _ h80) (J9_no))))))))))) (hX _ _ _ _ _ h)
  | 3 => exact J9_ite (hX _ _ _ _ _ h) (J9_no)
  | 4 => exact J9_ob (i9_wantWord _ _ _ _ h) (fun _ h81 => J9_od (fun _ => J9_ob (hX _ _ _ _ _ h81) (fun _ h82 => J9_ob (i9_node _ _ _ _ h82) (fun _ h83 => J9_ite (hX _ _ _ _ _ h83) (J9_no)))))
  | 5 => exact J9_ob (i9_wantWord _ _ _ _ h) (fun _ h84 => hX _ _ _ _ _ h84)
  | 6 => exact J9_ob (i9_node _ _ _ _ h) (fun _ h85 => J9_so h85)
  | b + 7 => exact J9_no
theorem i9_s_conjunction {X : Nat → Nat → Nat → (Nat → Int32) → MS → Option (Int32 × MS)} (hX : ∀ e m b L (σ : MS), I42 w σ → J9 w (X e m b L σ)) (k d b : Nat) (L : Nat → Int32) (σ : MS) (h : I42 w σ) : J9 w (s_conjunction X k d b L σ) := by
  match b with
  | 0 => exact J9_od (fun _ => J9_ob (hX _ _ _ _ _ h) (fun _ h86 => hX _ _ _ _ _ h86))
  | 1 => exact J9_ite (J9_ob (i9_isWord _ _ _ _ h) (fun _ h87 => J9_ite (hX _ _ _ _ _ h87) (J9_ob (i9_take _ _ _ _ h87) (fun _ h88 => J9_od (fun _ => J9_ob (hX _ _ _ _ _ h88) (fun _ h89 => J9_ob (i9_over _ _ _ _ h89) (fun _ h90 => hX _ _ _ _ _ h90))))))) (hX _ _ _ _ _ h)
  | 2 => exact J9_so h
  | b + 3 => exact J9_no
theorem i9_s_exp {X : Nat → Nat → Nat → (Nat → Int32) → MS → Option (Int32 × MS)} (hX : ∀ e m b L (σ : MS), I42 w σ → J9 w (X e m b L σ)) (k d b : Nat) (L : Nat → Int32) (σ : MS) (h : I42 w σ) : J9 w (s_exp X k d b L σ) := by
  match b with
  | 0 => exact J9_od (fun _ => J9_ob (hX _ _ _ _ _ h) (fun _ h91 => hX _ _ _ _ _ h91))
  | 1 => exact J9_ite (J9_ob (i9_isWord _ _ _ _ h) (fun _ h92 => J9_ite (hX _ _ _ _ _ h92) (J9_ob (i9_take _ _ _ _ h92) (fun _ h93 => J9_od (fun _ => J9_ob (hX _ _ _ _ _ h93) (fun _ h94 => J9_ob (i9_over _ _ _ _ h94) (fun _ h95 => hX _ _ _ _ _ h95))))))) (hX _ _ _ _ _ h)
  | 2 => exact J9_so h
  | b + 3 => exact J9_no
theorem i9_s_iters {X : Nat → Nat → Nat → (Nat → Int32) → MS → Option (Int32 × MS)} (hX : ∀ e m b L (σ : MS), I42 w σ → J9 w (X e m b L σ)) (k d b : Nat) (L : Nat → Int32) (σ : MS) (h : I42 w σ) : J9 w (s_iters X k d b L σ) := by
  match b with
  | 0 => exact hX _ _ _ _ _ h
  | 1 => exact J9_ite (hX _ _ _ _ _ h) (J9_ite (J9_ob (i9_isSign _ _ _ _ h) (fun _ h96 => J9_ite (hX _ _ _ _ _ h96) (hX _ _ _ _ _ h96))) (hX _ _ _ _ _ h))
  | 2 => exact hX _ _ _ _ _ h
  | 3 => exact J9_ite (J9_ob (i9_pattern _ _ _ _ h) (fun _ h97 => hX _ _ _ _ _ h97)) (hX _ _ _ _ _ h)
  | 4 => exact J9_ob (i9_tellName _ _ _ _ h) (fun _ h98 => hX _ _ _ _ _ h98)
  | 5 => exact J9_ob (i9_wantWord _ _ _ _ h) (fun _ h99 => J9_od (fun _ => J9_ob (hX _ _ _ _ _ h99) (fun _ h100 => J9_ob (i9_node _ _ _ _ h100) (fun _ h101 => J9_ite (hX _ _ _ _ _ h101) (hX _ _ _ _ _ h101)))))
  | 6 => exact J9_ite (hX _ _ _ _ _ h) (J9_no)
  | 7 => exact hX _ _ _ _ _ h
  | 8 => exact J9_ite (hX _ _ _ _ _ h) (J9_ite (J9_ite (J9_ite (J9_ite (J9_ob (i9_see _ _ _ _ h) (fun _ h102 => hX _ _ _ _ _ h102)) (J9_no)) (J9_no)) (J9_no)) (hX _ _ _ _ _ h))
  | 9 => exact J9_ite (J9_ob (i9_isSign _ _ _ _ h) (fun _ h103 => J9_ite (hX _ _ _ _ _ h103) (hX _ _ _ _ _ h103))) (hX _ _ _ _ _ h)
  | 10 => exact hX _ _ _ _ _ h
  | 11 => exact J9_ite (hX _ _ _ _ _ h) (J9_ob (i9_take _ _ _ _ h) (fun _ h104 => hX _ _ _ _ _ h104))
  | 12 => exact hX _ _ _ _ _ h
  | 13 => exact hX _ _ _ _ _ h
  | 14 => exact J9_so h
  | b + 15 => exact J9_no
theorem i9_s_listed {X : Nat → Nat → Nat → (Nat → Int32) → MS → Option (Int32 × MS)} (hX : ∀ e m b L (σ : MS), I42 w σ → J9 w (X e m b L σ)) (k d b : Nat) (L : Nat → Int32) (σ : MS) (h : I42 w σ) : J9 w (s_listed X k d b L σ) := by
  match b with
  | 0 => exact J9_od (fun _ => J9_ob (hX _ _ _ _ _ h) (fun _ h105 => J9_ite (J9_ob (i9_isSign _ _ _ _ h105) (fun _ h106 => J9_ite (hX _ _ _ _ _ h106) (J9_ob (i9_take _ _ _ _ h106) (fun _ h107 => J9_od (fun _ => J9_ob (hX _ _ _ _ _ h107) (fun _ h108 => J9_ob (i9_wrapped _ _ _ _ h108) (fun _ h109 => J9_so h109))))))) (hX _ _ _ _ _ h105)))
  | 1 => exact hX _ _ _ _ _ h
  | 2 => exact J9_ite (J9_ob (i9_isSign _ _ _ _ h) (fun _ h110 => J9_ite (hX _ _ _ _ _ h110) (J9_ob (i9_take _ _ _ _ h110) (fun _ h111 => J9_od (fun _ => J9_ob (hX _ _ _ _ _ h111) (fun _ h112 => J9_ite (J9_ite (J9_ob (i9_isSign _ _ _ _ h112) (fun _ h113 => J9_ite (hX _ _ _ _ _ h113) (J9_ob (i9_take _ _ _ _ h113) (fun _ h114 => J9_od (fun _ => J9_ob (hX _ _ _ _ _ h114) (fun _ h115 => J9_ob (i9_wrapped _ _ _ _ h115) (fun _ h116 => J9_so h116))))))) (hX _ _ _ _ _ h112)) (hX _ _ _ _ _ h112))))))) (hX _ _ _ _ _ h)
  | 3 => exact J9_ite (hX _ _ _ _ _ h) (J9_no)
  | 4 => exact hX _ _ _ _ _ h
  | 5 => exact J9_ite (hX _ _ _ _ _ h) (hX _ _ _ _ _ h)
  | 6 => exact hX _ _ _ _ _ h
  | 7 => exact J9_ob (i9_node _ _ _ _ h) (fun _ h117 => J9_so h117)
  | b + 8 => exact J9_no
theorem i9_s_name {X : Nat → Nat → Nat → (Nat → Int32) → MS → Option (Int32 × MS)} (hX : ∀ e m b L (σ : MS), I42 w σ → J9 w (X e m b L σ)) (k d b : Nat) (L : Nat → Int32) (σ : MS) (h : I42 w σ) : J9 w (s_name X k d b L σ) := by
  match b with
  | 0 => exact J9_ob (i9_find _ _ _ _ h) (fun _ h118 => J9_ob (i9_take _ _ _ _ h118) (fun _ h119 => J9_ite (J9_ite (hX _ _ _ _ _ h119) (J9_ite (hX _ _ _ _ _ h119) (J9_ite (J9_ob (i9_isSign _ _ _ _ h119) (fun _ h120 => J9_ite (hX _ _ _ _ _ h120) (hX _ _ _ _ _ h120))) (hX _ _ _ _ _ h119)))) (hX _ _ _ _ _ h119)))
  | 1 => exact J9_ob (i9_fault _ _ _ _ h) (fun _ h121 => hX _ _ _ _ _ h121)
  | 2 => exact J9_ite (hX _ _ _ _ _ h) (J9_so h)
  | 3 => exact J9_ite (J9_ite (hX _ _ _ _ _ h) (hX _ _ _ _ _ h)) (hX _ _ _ _ _ h)
  | 4 => exact hX _ _ _ _ _ h
  | 5 => exact J9_ob (i9_node _ _ _ _ h) (fun _ h122 => J9_so h122)
  | 6 => exact J9_ob (i9_open _ _ _ _ h) (fun _ h123 => J9_ite (J9_ob (i9_take _ _ _ _ h123) (fun _ h124 => hX _ _ _ _ _ h124)) (hX _ _ _ _ _ h123))
  | 7 => exact hX _ _ _ _ _ h
  | 8 => exact J9_ite (J9_ite (hX _ _ _ _ _ h) (J9_ob (i9_isSign _ _ _ _ h) (fun _ h125 => J9_ite (hX _ _ _ _ _ h125) (hX _ _ _ _ _ h125)))) (hX _ _ _ _ _ h)
  | 9 => exact J9_ite (hX _ _ _ _ _ h) (J9_ob (i9_isSign _ _ _ _ h) (fun _ h126 => J9_ite (hX _ _ _ _ _ h126) (hX _ _ _ _ _ h126)))
  | 10 => exact J9_ite (hX _ _ _ _ _ h) (J9_ob (i9_take _ _ _ _ h) (fun _ h127 => hX _ _ _ _ _ h127))
  | 11 => exact J9_od (fun _ => J9_ob (hX _ _ _ _ _ h) (fun _ h128 => J9_ite (hX _ _ _ _ _ h128) (hX _ _ _ _ _ h128)))
  | 12 => exact hX _ _ _ _ _ h
  | 13 => exact J9_ite (hX _ _ _ _ _ h) (J9_ite (hX _ _ _ _ _ h) (J9_no))
  | 14 => exact hX _ _ _ _ _ h
  | 15 => exact J9_ite (J9_ob (i9_isSign _ _ _ _ h) (fun _ h129 => J9_ite (J9_ob (i9_cannot _ _ _ _ h129) (fun _ h130 => hX _ _ _ _ _ h130)) (hX _ _ _ _ _ h129))) (hX _ _ _ _ _ h)
  | 16 => exact J9_ite (J9_ite (J9_ite (hX _ _ _ _ _ h) (J9_ob (i9_fault _ _ _ _ h) (fun _ h131 => hX _ _ _ _ _ h131))) (J9_no)) (hX _ _ _ _ _ h)
  | 17 => exact J9_ite (J9_ob (i9_take _ _ _ _ h) (fun _ h132 => hX _ _ _ _ _ h132)) (hX _ _ _ _ _ h)
  | 18 => exact hX _ _ _ _ _ h
  | 19 => exact J9_ob (i9_wrapped _ _ _ _ h) (fun _ h133 => J9_so h133)
  | b + 20 => exact J9_no
theorem i9_s_negation {X : Nat → Nat → Nat → (Nat → Int32) → MS → Option (Int32 × MS)} (hX : ∀ e m b L (σ : MS), I42 w σ → J9 w (X e m b L σ)) (k d b : Nat) (L : Nat → Int32) (σ : MS) (h : I42 w σ) : J9 w (s_negation X k d b L σ) := by
  match b with
  | 0 => exact J9_ite (J9_ob (i9_isWord _ _ _ _ h) (fun _ h134 => J9_ite (hX _ _ _ _ _ h134) (hX _ _ _ _ _ h134))) (hX _ _ _ _ _ h)
  | 1 => exact J9_od (fun _ => J9_ob (hX _ _ _ _ _ h) (fun _ h135 => J9_so h135))
  | 2 => exact J9_ob (i9_open _ _ _ _ h) (fun _ h136 => J9_ite (J9_ob (i9_take _ _ _ _ h136) (fun _ h137 => hX _ _ _ _ _ h137)) (hX _ _ _ _ _ h136))
  | 3 => exact J9_od (fun _ => J9_ob (hX _ _ _ _ _ h) (fun _ h138 => hX _ _ _ _ _ h138))
  | 4 => exact J9_ob (i9_node _ _ _ _ h) (fun _ h139 => J9_so h139)
  | b + 5 => exact J9_no
theorem i9_s_parts {X : Nat → Nat → Nat → (Nat → Int32) → MS → Option (Int32 × MS)} (hX : ∀ e m b L (σ : MS), I42 w σ → J9 w (X e m b L σ)) (k d b : Nat) (L : Nat → Int32) (σ : MS) (h : I42 w σ) : J9 w (s_parts X k d b L σ) := by
  match b with
  | 0 => exact hX _ _ _ _ _ h
  | 1 => exact J9_ite (J9_ob (i9_isSign _ _ _ _ h) (fun _ h140 => J9_ite (J9_ob (i9_isSign _ _ _ _ h140) (fun _ h141 => J9_ite (hX _ _ _ _ _ h141) (hX _ _ _ _ _ h141))) (hX _ _ _ _ _ h140))) (hX _ _ _ _ _ h)
  | 2 => exact J9_ob (i9_isSign _ _ _ _ h) (fun _ h142 => J9_ob (i9_open _ _ _ _ h142) (fun _ h143 => J9_ite (J9_ob (i9_take _ _ _ _ h143) (fun _ h144 => hX _ _ _ _ _ h144)) (hX _ _ _ _ _ h143)))
  | 3 => exact J9_od (fun _ => J9_ob (hX _ _ _ _ _ h) (fun _ h145 => J9_ite (J9_ite (J9_ob (i9_isSign _ _ _ _ h145) (fun _ h146 => J9_ite (hX _ _ _ _ _ h146) (J9_ob (i9_take _ _ _ _ h146) (fun _ h147 => J9_od (fun _ => J9_ob (hX _ _ _ _ _ h147) (fun _ h148 => J9_ob (i9_over _ _ _ _ h148) (fun _ h149 => J9_ite (hX _ _ _ _ _ h149) (J9_no)))))))) (hX _ _ _ _ _ h145)) (hX _ _ _ _ _ h145)))
  | 4 => exact J9_ite (hX _ _ _ _ _ h) (hX _ _ _ _ _ h)
  | 5 => exact hX _ _ _ _ _ h
  | 6 => exact J9_ob (i9_over _ _ _ _ h) (fun _ h150 => hX _ _ _ _ _ h150)
  | 7 => exact J9_ite (hX _ _ _ _ _ h) (hX _ _ _ _ _ h)
  | 8 => exact hX _ _ _ _ _ h
  | 9 => exact J9_ob (i9_want _ _ _ _ h) (fun _ h151 => hX _ _ _ _ _ h151)
  | 10 => exact J9_so h
  | b + 11 => exact J9_no
theorem i9_s_power {X : Nat → Nat → Nat → (Nat → Int32) → MS → Option (Int32 × MS)} (hX : ∀ e m b L (σ : MS), I42 w σ → J9 w (X e m b L σ)) (k d b : Nat) (L : Nat → Int32) (σ : MS) (h : I42 w σ) : J9 w (s_power X k d b L σ) := by
  match b with
  | 0 => exact J9_od (fun _ => J9_ob (hX _ _ _ _ _ h) (fun _ h152 => J9_ite (J9_ob (i9_isSign _ _ _ _ h152) (fun _ h153 => J9_ite (hX _ _ _ _ _ h153) (hX _ _ _ _ _ h153))) (hX _ _ _ _ _ h152)))
  | 1 => exact J9_so h
  | 2 => exact J9_ob (i9_open _ _ _ _ h) (fun _ h154 => J9_ite (J9_ob (i9_take _ _ _ _ h154) (fun _ h155 => hX _ _ _ _ _ h155)) (hX _ _ _ _ _ h154))
  | 3 => exact J9_od (fun _ => J9_ob (hX _ _ _ _ _ h) (fun _ h156 => hX _ _ _ _ _ h156))
  | 4 => exact J9_ob (i9_over _ _ _ _ h) (fun _ h157 => J9_so h157)
  | b + 5 => exact J9_no
theorem i9_s_prefix {X : Nat → Nat → Nat → (Nat → Int32) → MS → Option (Int32 × MS)} (hX : ∀ e m b L (σ : MS), I42 w σ → J9 w (X e m b L σ)) (k d b : Nat) (L : Nat → Int32) (σ : MS) (h : I42 w σ) : J9 w (s_prefix X k d b L σ) := by
  match b with
  | 0 => exact J9_ite (hX _ _ _ _ _ h) (J9_so h)
  | 1 => exact J9_ob (i9_isSign _ _ _ _ h) (fun _ h158 => J9_ite (J9_ob (i9_isSign _ _ _ _ h158) (fun _ h159 => J9_ite (hX _ _ _ _ _ h159) (hX _ _ _ _ _ h159))) (hX _ _ _ _ _ h158))
  | 2 => exact J9_ob (i9_isSign _ _ _ _ h) (fun _ h160 => J9_ite (hX _ _ _ _ _ h160) (hX _ _ _ _ _ h160))
  | 3 => exact hX _ _ _ _ _ h
  | 4 => exact J9_ob (i9_open _ _ _ _ h) (fun _ h161 => J9_ite (J9_ob (i9_take _ _ _ _ h161) (fun _ h162 => hX _ _ _ _ _ h162)) (hX _ _ _ _ _ h161))
  | 5 => exact J9_od (fun _ => J9_ob (hX _ _ _ _ _ h) (fun _ h163 => hX _ _ _ _ _ h163))
  | 6 => exact J9_ob (i9_node _ _ _ _ h) (fun _ h164 => J9_so h164)
  | 7 => exact J9_ob (i9_isSign _ _ _ _ h) (fun _ h165 => J9_ite (J9_ob (i9_isSign _ _ _ _ h165) (fun _ h166 => J9_ite (J9_ob (i9_isWord _ _ _ _ h166) (fun _ h167 => J9_ite (J9_ob (i9_isWord _ _ _ _ h167) (fun _ h168 => J9_ite (hX _ _ _ _ _ h168) (hX _ _ _ _ _ h168))) (hX _ _ _ _ _ h167))) (hX _ _ _ _ _ h166))) (hX _ _ _ _ _ h165))
  | 8 => exact J9_ob (i9_operator _ _ _ _ h) (fun _ h169 => J9_ob (i9_open _ _ _ _ h169) (fun _ h170 => J9_ite (J9_ob (i9_take _ _ _ _ h170) (fun _ h171 => hX _ _ _ _ _ h171)) (hX _ _ _ _ _ h170)))
  | 9 => exact J9_ob (i9_want _ _ _ _ h) (fun _ h172 => J9_od (fun _ => J9_ob (hX _ _ _ _ _ h172) (fun _ h173 => hX _ _ _ _ _ h173)))
  | 10 => exact J9_ob (i9_node _ _ _ _ h) (fun _ h174 => J9_so h174)
  | 11 => exact J9_od (fun _ => J9_ob (hX _ _ _ _ _ h) (fun _ h175 => J9_od (fun _ => J9_ob (hX _ _ _ _ _ h175) (fun _ h176 => J9_so h176))))
  | b + 12 => exact J9_no
theorem i9_s_primary {X : Nat → Nat → Nat → (Nat → Int32) → MS → Option (Int32 × MS)} (hX : ∀ e m b L (σ : MS), I42 w σ → J9 w (X e m b L σ)) (k d b : Nat) (L : Nat → Int32) (σ : MS) (h : I42 w σ) : J9 w (s_primary X k d b L σ) := by
  match b with
  | 0 => exact J9_ite (hX _ _ _ _ _ h) (J9_so h)
  | 1 => exact J9_ite (hX _ _ _ _ _ h) (J9_ite (hX _ _ _ _ _ h) (hX _ _ _ _ _ h))
  | 2 => exact J9_ite (hX _ _ _ _ _ h) (hX _ _ _ _ _ h)
  | 3 => exact hX _ _ _ _ _ h
  | 4 => exact J9_ite (hX _ _ _ _ _ h) (hX _ _ _ _ _ h)
  | 5 => exact hX _ _ _ _ _ h
  | 6 => exact J9_ob (i9_keep _ _ _ _ h) (fun _ h177 => J9_ob (i9_node _ _ _ _ h177) (fun _ h178 => J9_ob (i9_take _ _ _ _ h178) (fun _ h179 => J9_so h179)))
  | 7 => exact J9_ite (J9_od (fun _ => J9_ob (hX _ _ _ _ _ h) (fun _ h180 => J9_so h180))) (hX _ _ _ _ _ h)
  | 8 => exact J9_ob (i9_isSign _ _ _ _ h) (fun _ h181 => J9_ite (hX _ _ _ _ _ h181) (J9_ob (i9_open _ _ _ _ h181) (fun _ h182 => J9_ite (J9_ob (i9_take _ _ _ _ h182) (fun _ h183 => hX _ _ _ _ _ h183)) (hX _ _ _ _ _ h182))))
  | 9 => exact J9_od (fun _ => J9_ob (hX _ _ _ _ _ h) (fun _ h184 => J9_ob (i9_want _ _ _ _ h184) (fun _ h185 => hX _ _ _ _ _ h185)))
  | 10 => exact J9_ob (i9_over _ _ _ _ h) (fun _ h186 => J9_so h186)
  | 11 => exact J9_ob (i9_isSign _ _ _ _ h) (fun _ h187 => J9_ite (J9_ob (i9_isSign _ _ _ _ h187) (fun _ h188 => J9_ite (hX _ _ _ _ _ h188) (hX _ _ _ _ _ h188))) (hX _ _ _ _ _ h187))
  | 12 => exact J9_od (fun _ => J9_ob (hX _ _ _ _ _ h) (fun _ h189 => J9_so h189))
  | 13 => exact J9_ite (J9_od (fun _ => J9_ob (hX _ _ _ _ _ h) (fun _ h190 => J9_so h190))) (hX _ _ _ _ _ h)
  | 14 => exact J9_ob (i9_cannot _ _ _ _ h) (fun _ h191 => J9_so h191)
  | b + 15 => exact J9_no
theorem i9_s_quantified {X : Nat → Nat → Nat → (Nat → Int32) → MS → Option (Int32 × MS)} (hX : ∀ e m b L (σ : MS), I42 w σ → J9 w (X e m b L σ)) (k d b : Nat) (L : Nat → Int32) (σ : MS) (h : I42 w σ) : J9 w (s_quantified X k d b L σ) := by
  match b with
  | 0 => exact J9_ob (i9_open _ _ _ _ h) (fun _ h192 => J9_ite (J9_ob (i9_take _ _ _ _ h192) (fun _ h193 => hX _ _ _ _ _ h193)) (hX _ _ _ _ _ h192))
  | 1 => exact J9_od (fun _ => J9_ob (hX _ _ _ _ _ h) (fun _ h194 => J9_ob (i9_want _ _ _ _ h194) (fun _ h195 => J9_od (fun _ => J9_ob (hX _ _ _ _ _ h195) (fun _ h196 => hX _ _ _ _ _ h196)))))
  | 2 => exact hX _ _ _ _ _ h
  | 3 => exact J9_ob (i9_node _ _ _ _ h) (fun _ h197 => J9_so h197)
  | b + 4 => exact J9_no
theorem i9_s_relation {X : Nat → Nat → Nat → (Nat → Int32) → MS → Option (Int32 × MS)} (hX : ∀ e m b L (σ : MS), I42 w σ → J9 w (X e m b L σ)) (k d b : Nat) (L : Nat → Int32) (σ : MS) (h : I42 w σ) : J9 w (s_relation X k d b L σ) := by
  match b with
  | 0 => exact J9_od (fun _ => J9_ob (hX _ _ _ _ _ h) (fun _ h198 => J9_ite (J9_ob (i9_isRelation _ _ _ _ h198) (fun _ h199 => J9_ite (hX _ _ _ _ _ h199) (J9_ob (i9_operator _ _ _ _ h199) (fun _ h200 => J9_ob (i9_take _ _ _ _ h200) (fun _ h201 => J9_od (fun _ => J9_ob (hX _ _ _ _ _ h201) (fun _ h202 => J9_ob (i9_over _ _ _ _ h202) (fun _ h203 => hX _ _ _ _ _ h203)))))))) (hX _ _ _ _ _ h198)))
  | 1 => exact J9_so h
  | b + 2 => exact J9_no
theorem i9_s_sum {X : Nat → Nat → Nat → (Nat → Int32) → MS → Option (Int32 × MS)} (hX : ∀ e m b L (σ : MS), I42 w σ → J9 w (X e m b L σ)) (k d b : Nat) (L : Nat → Int32) (σ : MS) (h : I42 w σ) : J9 w (s_sum X k d b L σ) := by
  match b with
  | 0 => exact J9_od (fun _ => J9_ob (hX _ _ _ _ _ h) (fun _ h204 => hX _ _ _ _ _ h204))
  | 1 => exact J9_ite (J9_ob (i9_isSign _ _ _ _ h) (fun _ h205 => J9_ite (J9_ob (i9_isSign _ _ _ _ h205) (fun _ h206 => J9_ite (hX _ _ _ _ _ h206) (hX _ _ _ _ _ h206))) (hX _ _ _ _ _ h205))) (hX _ _ _ _ _ h)
  | 2 => exact J9_ob (i9_operator _ _ _ _ h) (fun _ h207 => J9_ob (i9_take _ _ _ _ h207) (fun _ h208 => J9_od (fun _ => J9_ob (hX _ _ _ _ _ h208) (fun _ h209 => J9_ob (i9_over _ _ _ _ h209) (fun _ h210 => hX _ _ _ _ _ h210)))))
  | 3 => exact J9_so h
  | b + 4 => exact J9_no
theorem i9_s_term {X : Nat → Nat → Nat → (Nat → Int32) → MS → Option (Int32 × MS)} (hX : ∀ e m b L (σ : MS), I42 w σ → J9 w (X e m b L σ)) (k d b : Nat) (L : Nat → Int32) (σ : MS) (h : I42 w σ) : J9 w (s_term X k d b L σ) := by
  match b with
  | 0 => exact J9_od (fun _ => J9_ob (hX _ _ _ _ _ h) (fun _ h211 => hX _ _ _ _ _ h211))
  | 1 => exact J9_ite (J9_ob (i9_isSign _ _ _ _ h) (fun _ h212 => J9_ite (J9_ob (i9_isWord _ _ _ _ h212) (fun _ h213 => J9_ite (J9_ob (i9_isWord _ _ _ _ h213) (fun _ h214 => J9_ite (hX _ _ _ _ _ h214) (hX _ _ _ _ _ h214))) (hX _ _ _ _ _ h213))) (hX _ _ _ _ _ h212))) (hX _ _ _ _ _ h)
  | 2 => exact J9_ob (i9_operator _ _ _ _ h) (fun _ h215 => J9_ob (i9_take _ _ _ _ h215) (fun _ h216 => J9_od (fun _ => J9_ob (hX _ _ _ _ _ h216) (fun _ h217 => J9_ob (i9_over _ _ _ _ h217) (fun _ h218 => hX _ _ _ _ _ h218)))))
  | 3 => exact J9_so h
  | b + 4 => exact J9_no
theorem i9_s_wordly {X : Nat → Nat → Nat → (Nat → Int32) → MS → Option (Int32 × MS)} (hX : ∀ e m b L (σ : MS), I42 w σ → J9 w (X e m b L σ)) (k d b : Nat) (L : Nat → Int32) (σ : MS) (h : I42 w σ) : J9 w (s_wordly X k d b L σ) := by
  match b with
  | 0 => exact J9_ite (hX _ _ _ _ _ h) (J9_ite (hX _ _ _ _ _ h) (J9_ite (hX _ _ _ _ _ h) (J9_ite (hX _ _ _ _ _ h) (J9_ite (hX _ _ _ _ _ h) (J9_ite (hX _ _ _ _ _ h) (hX _ _ _ _ _ h))))))
  | 1 => exact J9_ob (i9_named _ _ _ _ h) (fun _ h219 => J9_so h219)
  | 2 => exact J9_ob (i9_named _ _ _ _ h) (fun _ h220 => J9_so h220)
  | 3 => exact J9_ob (i9_named _ _ _ _ h) (fun _ h221 => J9_so h221)
  | 4 => exact J9_ite (hX _ _ _ _ _ h) (hX _ _ _ _ _ h)
  | 5 => exact hX _ _ _ _ _ h
  | 6 => exact J9_od (fun _ => J9_ob (hX _ _ _ _ _ h) (fun _ h222 => J9_so h222))
  | 7 => exact J9_od (fun _ => J9_ob (hX _ _ _ _ _ h) (fun _ h223 => J9_so h223))
  | 8 => exact J9_ite (J9_ite (hX _ _ _ _ _ h) (J9_ob (i9_named _ _ _ _ h) (fun _ h224 => J9_so h224))) (hX _ _ _ _ _ h)
  | 9 => exact J9_ite (hX _ _ _ _ _ h) (J9_ite (hX _ _ _ _ _ h) (hX _ _ _ _ _ h))
  | 10 => exact J9_ite (hX _ _ _ _ _ h) (J9_ite (J9_ite (hX _ _ _ _ _ h) (hX _ _ _ _ _ h)) (hX _ _ _ _ _ h))
  | 11 => exact hX _ _ _ _ _ h
  | 12 => exact hX _ _ _ _ _ h
  | 13 => exact J9_ite (J9_ob (i9_cannot _ _ _ _ h) (fun _ h225 => J9_so h225)) (hX _ _ _ _ _ h)
  | 14 => exact J9_ob (i9_take _ _ _ _ h) (fun _ h226 => J9_ite (J9_ob (i9_isSign _ _ _ _ h226) (fun _ h227 => J9_ite (J9_ob (i9_cannot _ _ _ _ h227) (fun _ h228 => hX _ _ _ _ _ h228)) (hX _ _ _ _ _ h227))) (hX _ _ _ _ _ h226))
  | 15 => exact J9_ite (J9_ob (i9_open _ _ _ _ h) (fun _ h229 => hX _ _ _ _ _ h229)) (hX _ _ _ _ _ h)
  | 16 => exact J9_ite (J9_ob (i9_take _ _ _ _ h) (fun _ h230 => hX _ _ _ _ _ h230)) (hX _ _ _ _ _ h)
  | 17 => exact J9_od (fun _ => J9_ob (hX _ _ _ _ _ h) (fun _ h231 => J9_ob (i9_want _ _ _ _ h231) (fun _ h232 => hX _ _ _ _ _ h232)))
  | 18 => exact J9_ob (i9_node _ _ _ _ h) (fun _ h233 => J9_so h233)
  | b + 19 => exact J9_no
theorem i9_GE : ∀ (k d m b : Nat) (L : Nat → Int32) (σ : MS), I42 w σ → J9 w (x_GE k d m b L σ) := by
  intro k
  induction k with
  | zero => intro d m b L σ _; exact J9_no
  | succ k ih =>
    intro d m b L σ h
    match m with
    | 0 => exact i9_s_brackets ih k d b L σ h
    | 1 => exact i9_s_choice ih k d b L σ h
    | 2 => exact i9_s_conjunction ih k d b L σ h
    | 3 => exact i9_s_exp ih k d b L σ h
    | 4 => exact i9_s_iters ih k d b L σ h
    | 5 => exact i9_s_listed ih k d b L σ h
    | 6 => exact i9_s_name ih k d b L σ h
    | 7 => exact i9_s_negation ih k d b L σ h
    | 8 => exact i9_s_parts ih k d b L σ h
    | 9 => exact i9_s_power ih k d b L σ h
    | 10 => exact i9_s_prefix ih k d b L σ h
    | 11 => exact i9_s_primary ih k d b L σ h
    | 12 => exact i9_s_quantified ih k d b L σ h
    | 13 => exact i9_s_relation ih k d b L σ h
    | 14 => exact i9_s_sum ih k d b L σ h
    | 15 => exact i9_s_term ih k d b L σ h
    | 16 => exact i9_s_wordly ih k d b L σ h
    | m + 17 => exact J9_no
theorem i9_exp (k b : Nat) (L : Nat → Int32) (σ : MS) (h : I42 w σ) : J9 w (x_exp k b L σ) := i9_GE k 320 3 b L σ h
theorem k9_beginText : ∀ (k b : Nat) (L : Nat → Int32) (σ : MS), k9 w σ → R9 w (x_beginText k b L σ) := by
  intro k
  induction k with
  | zero => intro b L σ _; exact R9_no
  | succ k ih =>
    intro b L σ h
    match b with
    | 0 =>
      refine R9_eq (by rw [x_beginText]) ?_
      exact ih _ _ _ h
    | 1 =>
      refine R9_eq (by rw [x_beginText]) ?_
      exact ih _ _ _ h
    | 2 =>
      refine R9_eq (by rw [x_beginText]) ?_
      exact ih _ _ _ h
    | 3 =>
      refine R9_eq (by rw [x_beginText]) ?_
      exact ih _ _ _ h
    | 4 =>
      refine R9_eq (by rw [x_beginText]) ?_
      exact ih _ _ _ h
    | 5 =>
      refine R9_eq (by rw [x_beginText]) ?_
      exact R9_so h
    | b + 6 =>
      exact R9_eq (by rw [x_beginText]) R9_no
theorem R9_oj {x : Option (Int32 × MS)} {f : Int32 × MS → Option (Int32 × MS)} (h1 : J9 w x) (h2 : ∀ r, I42 w r.2 → R9 w (f r)) : R9 w (ob x f) := by
  intro r hr
  cases x with
  | none => cases hr
  | some s => exact h2 s (h1 s rfl) r hr
theorem R9_ks {x : Option (Int32 × MS)} (h : Ks (ksw σ) x) (hk : k9 w σ) : R9 w x := fun r e => by
  obtain ⟨_, a1, a2, a3, a4, a5, a6⟩ := h r e
  obtain ⟨b1, b2, b3, b4, b5, b6⟩ := hk
  exact ⟨a1.trans b1, a2.trans b2, a3.trans b3, a4.trans b4, a5.trans b5, a6.trans b6⟩
theorem k9_readExp : ∀ (k b : Nat) (L : Nat → Int32) (σ : MS), k9 w σ → (1 ≤ b → b ≤ 5 → σ.1 37 = 42) → R9 w (x_readExp k b L σ) := by
  intro k
  induction k with
  | zero => intro b L σ _ _; exact R9_no
  | succ k ih =>
    intro b L σ h h2
    match b with
    | 0 =>
      refine R9_eq (by rw [x_readExp]) ?_
      exact R9_ob (k9_beginText _ _ _ _ h) (fun _ h1 => ih _ _ _ h1 (fun _ _ => rfl))
    | 1 =>
      refine R9_eq (by rw [x_readExp]) ?_
      exact R9_ite (ih _ _ _ (k9_21 (by decide) h) (fun _ _ => h2 (by decide) (by decide))) R9_no
    | 2 =>
      refine R9_eq (by rw [x_readExp]) ?_
      exact R9_ite (ih _ _ _ h (fun _ _ => h2 (by decide) (by decide))) R9_no
    | 3 =>
      refine R9_eq (by rw [x_readExp]) ?_
      exact ih _ _ _ h (fun _ _ => h2 (by decide) (by decide))
    | 4 =>
      refine R9_eq (by rw [x_readExp]) ?_
      exact R9_oj (i9_take _ _ _ _ ⟨h2 (by decide) (by decide), h⟩) (fun _ h1 => R9_oj (i9_exp _ _ _ _ h1) (fun _ h3 => R9_ite (R9_ite (ih _ _ _ h3.2 (fun _ _ => h3.1)) (R9_oj (i9_cannot _ _ _ _ h3) (fun _ h4 => ih _ _ _ h4.2 (fun _ _ => h4.1)))) (ih _ _ _ h3.2 (fun _ _ => h3.1))))
    | 5 =>
      refine R9_eq (by rw [x_readExp]) ?_
      exact ih _ _ _ h (fun _ z => absurd z (by decide))
    | 6 =>
      refine R9_eq (by rw [x_readExp]) ?_
      exact R9_so h
    | b + 7 => exact R9_eq (by rw [x_readExp]) R9_no
theorem k9_readExp0 (k b : Nat) (L : Nat → Int32) (h : k9 w σ) (hb : b = 0 := by rfl) : R9 w (x_readExp k b L σ) := by
  subst hb
  exact k9_readExp k 0 L σ h (fun z => absurd z (by decide))
theorem k9_work : ∀ (k b : Nat) (L : Nat → Int32) (J : Nat → Int64) (σ : MS), k9 w σ → R9 w (x_work k b L J σ) := by
  intro k
  induction k with
  | zero => intro b L J σ _; exact R9_no
  | succ k ih =>
    intro b L J σ h
    match b with
    | 0 =>
      refine R9_eq (by rw [x_work]) ?_
      exact R9_ite (ih _ _ _ _ h) (ih _ _ _ _ h)
    | 1 =>
      refine R9_eq (by rw [x_work]) ?_
      exact ih _ _ _ _ h
    | 2 =>
      refine R9_eq (by rw [x_work]) ?_
      exact R9_ob (R9_ks (ks_good _ _ _ _ (ks_rf _)) h) (fun _ h1 => R9_ite (R9_so h1) (ih _ _ _ _ h1))
    | 3 =>
      refine R9_eq (by rw [x_work]) ?_
      exact ih _ _ _ _ h
    | 4 =>
      refine R9_eq (by rw [x_work]) ?_
      exact R9_ob (k9_readExp0 _ _ _ h) (fun _ h2 => ih _ _ _ _ h2)
    | 5 =>
      refine R9_eq (by rw [x_work]) ?_
      exact ih _ _ _ _ h
    | 6 =>
      refine R9_eq (by rw [x_work]) ?_
      exact R9_ite (ih _ _ _ _ h) (ih _ _ _ _ h)
    | 7 =>
      refine R9_eq (by rw [x_work]) ?_
      exact R9_ob (R9_ks (ks_workAlone _ _ _ _ (ks_rf _)) h) (fun _ h3 => ih _ _ _ _ h3)
    | 8 =>
      refine R9_eq (by rw [x_work]) ?_
      exact ih _ _ _ _ h
    | 9 =>
      refine R9_eq (by rw [x_work]) ?_
      exact R9_ite (ih _ _ _ _ h) (ih _ _ _ _ h)
    | 10 =>
      refine R9_eq (by rw [x_work]) ?_
      exact R9_ob (R9_ks (ks_pop _ _ _ _ (ks_rf _)) h) (fun _ h4 => R9_ob (R9_ks (ks_show _ _ _ _ (ks_rf _)) h4) (fun _ h5 => ih _ _ _ _ h5))
    | 11 =>
      refine R9_eq (by rw [x_work]) ?_
      exact ih _ _ _ _ h
    | 12 =>
      refine R9_eq (by rw [x_work]) ?_
      exact ih _ _ _ _ h
    | 13 =>
      refine R9_eq (by rw [x_work]) ?_
      exact ih _ _ _ _ h
    | 14 =>
      refine R9_eq (by rw [x_work]) ?_
      exact R9_so h
    | b + 15 =>
      exact R9_eq (by rw [x_work]) R9_no
theorem k9_view : ∀ (k b : Nat) (L : Nat → Int32) (σ : MS), k9 w σ → R9 w (x_view k b L σ) := by
  intro k
  induction k with
  | zero => intro b L σ _; exact R9_no
  | succ k ih =>
    intro b L σ h
    match b with
    | 0 =>
      refine R9_eq (by rw [x_view]) ?_
      exact R9_ite (ih _ _ _ h) (ih _ _ _ h)
    | 1 =>
      refine R9_eq (by rw [x_view]) ?_
      exact R9_ite (ih _ _ _ h) (ih _ _ _ h)
    | 2 =>
      refine R9_eq (by rw [x_view]) ?_
      exact ih _ _ _ h
    | 3 =>
      refine R9_eq (by rw [x_view]) ?_
      exact R9_ob (R9_ks (ks_good _ _ _ _ (ks_rf _)) h) (fun _ h6 => R9_ite (R9_so h6) (ih _ _ _ h6))
    | 4 =>
      refine R9_eq (by rw [x_view]) ?_
      exact ih _ _ _ h
    | 5 =>
      refine R9_eq (by rw [x_view]) ?_
      exact R9_ob (k9_readExp0 _ _ _ h) (fun _ h7 => ih _ _ _ h7)
    | 6 =>
      refine R9_eq (by rw [x_view]) ?_
      exact ih _ _ _ h
    | 7 =>
      refine R9_eq (by rw [x_view]) ?_
      exact R9_ite (ih _ _ _ h) (ih _ _ _ h)
    | 8 =>
      refine R9_eq (by rw [x_view]) ?_
      exact R9_so h
    | 9 =>
      refine R9_eq (by rw [x_view]) ?_
      exact ih _ _ _ h
    | 10 =>
      refine R9_eq (by rw [x_view]) ?_
      exact R9_ite (ih _ _ _ h) (R9_ite (R9_ite (ih _ _ _ h) (R9_no)) (R9_no))
    | 11 =>
      refine R9_eq (by rw [x_view]) ?_
      exact ih _ _ _ h
    | 12 =>
      refine R9_eq (by rw [x_view]) ?_
      exact R9_ite (ih _ _ _ h) (R9_no)
    | 13 =>
      refine R9_eq (by rw [x_view]) ?_
      exact R9_ite (ih _ _ _ h) (R9_no)
    | 14 =>
      refine R9_eq (by rw [x_view]) ?_
      exact R9_ite (ih _ _ _ h) (R9_no)
    | 15 =>
      refine R9_eq (by rw [x_view]) ?_
      exact R9_ite (ih _ _ _ h) (R9_no)
    | 16 =>
      refine R9_eq (by rw [x_view]) ?_
      exact R9_ite (ih _ _ _ h) (R9_no)
    | 17 =>
      refine R9_eq (by rw [x_view]) ?_
      exact ih _ _ _ h
    | 18 =>
      refine R9_eq (by rw [x_view]) ?_
      exact ih _ _ _ h
    | 19 =>
      refine R9_eq (by rw [x_view]) ?_
      exact R9_so h
    | b + 20 =>
      exact R9_eq (by rw [x_view]) R9_no
theorem k9_round : ∀ (k b : Nat) (L : Nat → Int32) (σ : MS), k9 w σ → R9 w (x_round k b L σ) := by
  intro k
  induction k with
  | zero => intro b L σ _; exact R9_no
  | succ k ih =>
    intro b L σ h
    match b with
    | 0 =>
      refine R9_eq (by rw [x_round]) ?_
      exact R9_ite (ih _ _ _ h) (ih _ _ _ h)
    | 1 =>
      refine R9_eq (by rw [x_round]) ?_
      exact ih _ _ _ h
    | 2 =>
      refine R9_eq (by rw [x_round]) ?_
      exact R9_ob (R9_ks (ks_good _ _ _ _ (ks_rf _)) h) (fun _ h8 => R9_ite (R9_so h8) (ih _ _ _ h8))
    | 3 =>
      refine R9_eq (by rw [x_round]) ?_
      exact ih _ _ _ h
    | 4 =>
      refine R9_eq (by rw [x_round]) ?_
      exact R9_ite (ih _ _ _ h) (R9_ite (R9_ite (ih _ _ _ h) (R9_no)) (R9_no))
    | 5 =>
      refine R9_eq (by rw [x_round]) ?_
      exact ih _ _ _ h
    | 6 =>
      refine R9_eq (by rw [x_round]) ?_
      exact ih _ _ _ h
    | 7 =>
      refine R9_eq (by rw [x_round]) ?_
      exact R9_ite (ih _ _ _ h) (R9_ite (R9_ob (R9_ks (ks_load__54 _ _ _ _ (ks_rf _)) h) (fun _ h9 => R9_ob (k9_readExp0 _ _ _ h9) (fun _ h10 => R9_ob (R9_ks (ks_workAlone _ _ _ _ (ks_rf _)) h10) (fun _ h11 => ih _ _ _ h11)))) (R9_no))
    | 8 =>
      refine R9_eq (by rw [x_round]) ?_
      exact ih _ _ _ h
    | 9 =>
      refine R9_eq (by rw [x_round]) ?_
      exact R9_ite (ih _ _ _ h) (ih _ _ _ h)
    | 10 =>
      refine R9_eq (by rw [x_round]) ?_
      exact R9_ob (R9_ks (ks_pop _ _ _ _ (ks_rf _)) h) (fun _ h12 => ih _ _ _ h12)
    | 11 =>
      refine R9_eq (by rw [x_round]) ?_
      exact ih _ _ _ h
    | 12 =>
      refine R9_eq (by rw [x_round]) ?_
      exact R9_ite (ih _ _ _ h) (R9_no)
    | 13 =>
      refine R9_eq (by rw [x_round]) ?_
      exact R9_ite (R9_ob (R9_ks (ks_compare _ _ _ _ (ks_rf _)) h) (fun _ h13 => R9_ite (ih _ _ _ h13) (ih _ _ _ h13))) (R9_no)
    | 14 =>
      refine R9_eq (by rw [x_round]) ?_
      exact ih _ _ _ h
    | 15 =>
      refine R9_eq (by rw [x_round]) ?_
      exact R9_ob (R9_ks (ks_kind _ _ _ _ (ks_rf _)) h) (fun _ h14 => R9_ite (R9_ob (R9_ks (ks_kind _ _ _ _ (ks_rf _)) h14) (fun _ h15 => R9_ite (ih _ _ _ h15) (ih _ _ _ h15))) (ih _ _ _ h14))
    | 16 =>
      refine R9_eq (by rw [x_round]) ?_
      exact ih _ _ _ h
    | 17 =>
      refine R9_eq (by rw [x_round]) ?_
      exact ih _ _ _ h
    | 18 =>
      refine R9_eq (by rw [x_round]) ?_
      exact R9_ite (R9_ob (R9_ks (ks_setOf _ _ _ _ (ks_rf _)) h) (fun _ h16 => ih _ _ _ h16)) (ih _ _ _ h)
    | 19 =>
      refine R9_eq (by rw [x_round]) ?_
      exact R9_ite (ih _ _ _ h) (R9_ob (R9_ks (ks_sift _ _ _ _ (ks_rf _)) h) (fun _ h17 => ih _ _ _ h17))
    | 20 =>
      refine R9_eq (by rw [x_round]) ?_
      exact ih _ _ _ h
    | 21 =>
      refine R9_eq (by rw [x_round]) ?_
      exact R9_ite (R9_ob (R9_ks (ks_setOf _ _ _ _ (ks_rf _)) h) (fun _ h18 => ih _ _ _ h18)) (ih _ _ _ h)
    | 22 =>
      refine R9_eq (by rw [x_round]) ?_
      exact R9_ite (ih _ _ _ h) (R9_ob (R9_ks (ks_sift _ _ _ _ (ks_rf _)) h) (fun _ h19 => ih _ _ _ h19))
    | 23 =>
      refine R9_eq (by rw [x_round]) ?_
      exact ih _ _ _ h
    | 24 =>
      refine R9_eq (by rw [x_round]) ?_
      exact R9_ite (ih _ _ _ h) (R9_no)
    | 25 =>
      refine R9_eq (by rw [x_round]) ?_
      exact R9_ite (ih _ _ _ h) (R9_no)
    | 26 =>
      refine R9_eq (by rw [x_round]) ?_
      exact R9_ite (ih _ _ _ h) (R9_no)
    | 27 =>
      refine R9_eq (by rw [x_round]) ?_
      exact R9_ite (ih _ _ _ h) (ih _ _ _ h)
    | 28 =>
      refine R9_eq (by rw [x_round]) ?_
      exact ih _ _ _ h
    | 29 =>
      refine R9_eq (by rw [x_round]) ?_
      exact ih _ _ _ h
    | 30 =>
      refine R9_eq (by rw [x_round]) ?_
      exact R9_ob (R9_ks (ks_load__56 _ _ _ _ (ks_rf _)) h) (fun _ h20 => ih _ _ _ h20)
    | 31 =>
      refine R9_eq (by rw [x_round]) ?_
      exact R9_so h
    | b + 32 =>
      exact R9_eq (by rw [x_round]) R9_no
end K9S
theorem Tm_k9 {f : Nat → Option (Int32 × MS)} {P : Int32 × MS → Prop} {w : K9T} (t : Tm f P) (h : ∀ k, R9 w (f k)) : Tm f (fun r => P r ∧ k9 w r.2) := by
  obtain ⟨r, k0, h1, h2⟩ := t
  exact ⟨r, k0, h1, h2, h k0 r (h1 k0 (Nat.le_refl _))⟩
end JnS578
