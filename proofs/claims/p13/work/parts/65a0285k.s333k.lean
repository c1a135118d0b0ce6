section JnS333k
/-! A fault's number (reference; made by kk.py): where none is noted, 11 is what it was as the reading began. -/
def Kf (c : Int32) (σ : MS) : Prop := σ.1 10 = 0 → σ.1 11 = c
def Kk (c : Int32) (x : Option (Int32 × MS)) : Prop := ∀ r, x = some r → Kf c r.2
section KKS
variable {c : Int32}
theorem Kk_no : Kk c none := fun _ h => by cases h
theorem Kk_so {r : Int32 × MS} (h : Kf c r.2) : Kk c (some r) := fun _ e => by cases e; exact h
theorem Kk_eq {a a' : Option (Int32 × MS)} (h1 : a = a') (h : Kk c a') : Kk c a := by rw [h1]; exact h
theorem Kk_ob {x : Option (Int32 × MS)} {f : Int32 × MS → Option (Int32 × MS)} (h1 : Kk c x) (h2 : ∀ r, Kf c r.2 → Kk c (f r)) : Kk c (ob x f) := by
  intro r hr
  cases x with
  | none => cases hr
  | some s => exact h2 s (h1 s rfl) r hr
theorem Kk_ite {p : Prop} {_ : Decidable p} {a b : Option (Int32 × MS)} (h1 : Kk c a) (h2 : Kk c b) : Kk c (if p then a else b) := by
  by_cases h : p
  · rw [if_pos h]; exact h1
  · rw [if_neg h]; exact h2
theorem Kk_od {d : Nat} {f : Nat → Option (Int32 × MS)} (h : ∀ e, Kk c (f e)) : Kk c (od d f) := by
  cases d with
  | zero => exact Kk_no
  | succ e => exact h e
theorem kk_fault (k : Nat) (L : Nat → Int32) (σ : MS) (h : Kf c σ) : Kk c (x_fault k 0 L σ) := by
  match k with
  | 0 => exact Kk_no
  | k + 1 =>
    refine Kk_eq (by rw [x_fault]) ?_
    have e3 : ∀ (k : Nat) (σ : MS), Kf c σ → Kk c (x_fault k 3 L σ) := fun k σ h => by
      match k with
      | 0 => exact Kk_no
      | k + 1 =>
        refine Kk_eq (by rw [x_fault]) ?_
        exact Kk_so h
    refine Kk_ite ?_ (e3 k σ h)
    match k with
    | 0 => exact Kk_no
    | k + 1 =>
      refine Kk_eq (by rw [x_fault]) ?_
      match k with
      | 0 => exact Kk_no
      | k + 1 =>
        refine Kk_eq (by rw [x_fault]) ?_
        refine e3 k _ (fun z => absurd (show (1 : Int32) = 0 from z) (by decide))
theorem kk_beginText : ∀ (k b : Nat) (L : Nat → Int32) (σ : MS), σ.1 11 = c → Kk c (x_beginText k b L σ) := by
  intro k
  induction k with
  | zero => intro b L σ _; exact Kk_no
  | succ k ih =>
    intro b L σ h
    match b with
    | 0 => refine Kk_eq (by rw [x_beginText]) ?_; exact ih _ _ _ h
    | 1 => refine Kk_eq (by rw [x_beginText]) ?_; exact ih _ _ _ h
    | 2 => refine Kk_eq (by rw [x_beginText]) ?_; exact ih _ _ _ h
    | 3 => refine Kk_eq (by rw [x_beginText]) ?_; exact ih _ _ _ h
    | 4 => refine Kk_eq (by rw [x_beginText]) ?_; exact ih _ _ _ h
    | 5 => exact Kk_eq (by rw [x_beginText]) (Kk_so (fun _ => h))
    | b + 6 => exact Kk_eq (by rw [x_beginText]) Kk_no
theorem kk_byteAt : ∀ (k b : Nat) (L : Nat → Int32) (σ : MS), Kf c σ → Kk c (x_byteAt k b L σ) := by
  intro k
  induction k with
  | zero => intro b L σ _; exact Kk_no
  | succ k ih =>
    intro b L σ h
    match b with
    | 0 =>
      refine Kk_eq (by rw [x_byteAt]) ?_
      exact Kk_ite (ih _ _ _ h) (Kk_ite (ih _ _ _ h) (Kk_no))
    | 1 =>
      refine Kk_eq (by rw [x_byteAt]) ?_
      exact ih _ _ _ h
    | 2 =>
      refine Kk_eq (by rw [x_byteAt]) ?_
      exact Kk_so h
    | b + 3 =>
      refine Kk_eq (by rw [x_byteAt]) Kk_no
theorem kk_skip : ∀ (k b : Nat) (L : Nat → Int32) (σ : MS), Kf c σ → Kk c (x_skip k b L σ) := by
  intro k
  induction k with
  | zero => intro b L σ _; exact Kk_no
  | succ k ih =>
    intro b L σ h
    match b with
    | 0 =>
      refine Kk_eq (by rw [x_skip]) ?_
      exact ih _ _ _ h
    | 1 =>
      refine Kk_eq (by rw [x_skip]) ?_
      exact Kk_ite (ih _ _ _ h) (Kk_ob (kk_byteAt _ _ _ _ h) (fun _ h1 => Kk_ite (ih _ _ _ h1) (Kk_ite (ih _ _ _ h1) (Kk_ite (ih _ _ _ h1) (Kk_ite (ih _ _ _ h1) (Kk_ite (ih _ _ _ h1) (ih _ _ _ h1)))))))
    | 2 =>
      refine Kk_eq (by rw [x_skip]) ?_
      exact ih _ _ _ h
    | 3 =>
      refine Kk_eq (by rw [x_skip]) ?_
      exact Kk_ite (Kk_ob (kk_byteAt _ _ _ _ h) (fun _ h2 => Kk_ite (ih _ _ _ h2) (ih _ _ _ h2))) (ih _ _ _ h)
    | 4 =>
      refine Kk_eq (by rw [x_skip]) ?_
      exact Kk_ite (ih _ _ _ h) (Kk_ite (Kk_ite (ih _ _ _ h) (ih _ _ _ h)) (Kk_no))
    | 5 =>
      refine Kk_eq (by rw [x_skip]) ?_
      exact ih _ _ _ h
    | 6 =>
      refine Kk_eq (by rw [x_skip]) ?_
      exact ih _ _ _ h
    | 7 =>
      refine Kk_eq (by rw [x_skip]) ?_
      exact Kk_so h
    | b + 8 =>
      refine Kk_eq (by rw [x_skip]) Kk_no
theorem kk_isLetter : ∀ (k b : Nat) (L : Nat → Int32) (σ : MS), Kf c σ → Kk c (x_isLetter k b L σ) := by
  intro k
  induction k with
  | zero => intro b L σ _; exact Kk_no
  | succ k ih =>
    intro b L σ h
    match b with
    | 0 =>
      refine Kk_eq (by rw [x_isLetter]) ?_
      exact Kk_ite (ih _ _ _ h) (Kk_ite (ih _ _ _ h) (ih _ _ _ h))
    | 1 =>
      refine Kk_eq (by rw [x_isLetter]) ?_
      exact Kk_ite (ih _ _ _ h) (Kk_ite (ih _ _ _ h) (ih _ _ _ h))
    | 2 =>
      refine Kk_eq (by rw [x_isLetter]) ?_
      exact ih _ _ _ h
    | 3 =>
      refine Kk_eq (by rw [x_isLetter]) ?_
      exact ih _ _ _ h
    | 4 =>
      refine Kk_eq (by rw [x_isLetter]) ?_
      exact Kk_ite (Kk_so h) (Kk_no)
    | b + 5 =>
      refine Kk_eq (by rw [x_isLetter]) Kk_no
theorem kk_isDigit : ∀ (k b : Nat) (L : Nat → Int32) (σ : MS), Kf c σ → Kk c (x_isDigit k b L σ) := by
  intro k
  induction k with
  | zero => intro b L σ _; exact Kk_no
  | succ k ih =>
    intro b L σ h
    match b with
    | 0 =>
      refine Kk_eq (by rw [x_isDigit]) ?_
      exact Kk_ite (ih _ _ _ h) (Kk_ite (ih _ _ _ h) (ih _ _ _ h))
    | 1 =>
      refine Kk_eq (by rw [x_isDigit]) ?_
      exact ih _ _ _ h
    | 2 =>
      refine Kk_eq (by rw [x_isDigit]) ?_
      exact Kk_ite (Kk_so h) (Kk_no)
    | b + 3 =>
      refine Kk_eq (by rw [x_isDigit]) Kk_no
theorem kk_wordAt : ∀ (k b : Nat) (L : Nat → Int32) (σ : MS), Kf c σ → Kk c (x_wordAt k b L σ) := by
  intro k
  induction k with
  | zero => intro b L σ _; exact Kk_no
  | succ k ih =>
    intro b L σ h
    match b with
    | 0 =>
      refine Kk_eq (by rw [x_wordAt]) ?_
      exact ih _ _ _ h
    | 1 =>
      refine Kk_eq (by rw [x_wordAt]) ?_
      exact Kk_ite (ih _ _ _ h) (ih _ _ _ h)
    | 2 =>
      refine Kk_eq (by rw [x_wordAt]) ?_
      exact Kk_ite (ih _ _ _ h) (Kk_ite (Kk_ite (Kk_ite (ih _ _ _ h) (ih _ _ _ h)) (Kk_no)) (Kk_no))
    | 3 =>
      refine Kk_eq (by rw [x_wordAt]) ?_
      exact Kk_ite (Kk_ite (Kk_ite (Kk_so h) (ih _ _ _ h)) (Kk_no)) (ih _ _ _ h)
    | 4 =>
      refine Kk_eq (by rw [x_wordAt]) ?_
      exact Kk_ite (Kk_ite (ih _ _ _ h) (ih _ _ _ h)) (Kk_no)
    | 5 =>
      refine Kk_eq (by rw [x_wordAt]) ?_
      exact ih _ _ _ h
    | 6 =>
      refine Kk_eq (by rw [x_wordAt]) ?_
      exact Kk_so h
    | b + 7 =>
      refine Kk_eq (by rw [x_wordAt]) Kk_no
theorem kk_sign : ∀ (k b : Nat) (L : Nat → Int32) (σ : MS), Kf c σ → Kk c (x_sign k b L σ) := by
  intro k
  induction k with
  | zero => intro b L σ _; exact Kk_no
  | succ k ih =>
    intro b L σ h
    match b with
    | 0 =>
      refine Kk_eq (by rw [x_sign]) ?_
      exact Kk_ite (ih _ _ _ h) (Kk_ite (ih _ _ _ h) (Kk_ite (ih _ _ _ h) (Kk_ite (ih _ _ _ h) (Kk_ite (ih _ _ _ h) (Kk_ite (ih _ _ _ h) (Kk_ite (ih _ _ _ h) (Kk_ite (ih _ _ _ h) (Kk_ite (ih _ _ _ h) (Kk_ite (ih _ _ _ h) (Kk_ite (ih _ _ _ h) (Kk_ite (ih _ _ _ h) (Kk_ite (ih _ _ _ h) (Kk_ite (ih _ _ _ h) (Kk_ite (ih _ _ _ h) (Kk_ite (ih _ _ _ h) (Kk_ite (ih _ _ _ h) (Kk_ite (ih _ _ _ h) (Kk_ite (ih _ _ _ h) (ih _ _ _ h)))))))))))))))))))
    | 1 =>
      refine Kk_eq (by rw [x_sign]) ?_
      exact Kk_ite (ih _ _ _ h) (ih _ _ _ h)
    | 2 =>
      refine Kk_eq (by rw [x_sign]) ?_
      exact ih _ _ _ h
    | 3 =>
      refine Kk_eq (by rw [x_sign]) ?_
      exact Kk_so h
    | 4 =>
      refine Kk_eq (by rw [x_sign]) ?_
      exact Kk_so h
    | 5 =>
      refine Kk_eq (by rw [x_sign]) ?_
      exact Kk_so h
    | 6 =>
      refine Kk_eq (by rw [x_sign]) ?_
      exact Kk_ite (ih _ _ _ h) (ih _ _ _ h)
    | 7 =>
      refine Kk_eq (by rw [x_sign]) ?_
      exact ih _ _ _ h
    | 8 =>
      refine Kk_eq (by rw [x_sign]) ?_
      exact Kk_so h
    | 9 =>
      refine Kk_eq (by rw [x_sign]) ?_
      exact Kk_so h
    | 10 =>
      refine Kk_eq (by rw [x_sign]) ?_
      exact Kk_so h
    | 11 =>
      refine Kk_eq (by rw [x_sign]) ?_
      exact Kk_so h
    | 12 =>
      refine Kk_eq (by rw [x_sign]) ?_
      exact Kk_so h
    | 13 =>
      refine Kk_eq (by rw [x_sign]) ?_
      exact Kk_so h
    | 14 =>
      refine Kk_eq (by rw [x_sign]) ?_
      exact Kk_so h
    | 15 =>
      refine Kk_eq (by rw [x_sign]) ?_
      exact Kk_so h
    | 16 =>
      refine Kk_eq (by rw [x_sign]) ?_
      exact Kk_so h
    | 17 =>
      refine Kk_eq (by rw [x_sign]) ?_
      exact Kk_so h
    | 18 =>
      refine Kk_eq (by rw [x_sign]) ?_
      exact Kk_ite (ih _ _ _ h) (ih _ _ _ h)
    | 19 =>
      refine Kk_eq (by rw [x_sign]) ?_
      exact ih _ _ _ h
    | 20 =>
      refine Kk_eq (by rw [x_sign]) ?_
      exact Kk_so h
    | 21 =>
      refine Kk_eq (by rw [x_sign]) ?_
      exact Kk_so h
    | 22 =>
      refine Kk_eq (by rw [x_sign]) ?_
      exact Kk_ite (ih _ _ _ h) (ih _ _ _ h)
    | 23 =>
      refine Kk_eq (by rw [x_sign]) ?_
      exact ih _ _ _ h
    | 24 =>
      refine Kk_eq (by rw [x_sign]) ?_
      exact Kk_so h
    | 25 =>
      refine Kk_eq (by rw [x_sign]) ?_
      exact Kk_ite (ih _ _ _ h) (ih _ _ _ h)
    | 26 =>
      refine Kk_eq (by rw [x_sign]) ?_
      exact ih _ _ _ h
    | 27 =>
      refine Kk_eq (by rw [x_sign]) ?_
      exact Kk_so h
    | 28 =>
      refine Kk_eq (by rw [x_sign]) ?_
      exact Kk_ite (ih _ _ _ h) (ih _ _ _ h)
    | 29 =>
      refine Kk_eq (by rw [x_sign]) ?_
      exact ih _ _ _ h
    | 30 =>
      refine Kk_eq (by rw [x_sign]) ?_
      exact Kk_so h
    | 31 =>
      refine Kk_eq (by rw [x_sign]) ?_
      exact Kk_so h
    | 32 =>
      refine Kk_eq (by rw [x_sign]) ?_
      exact Kk_so h
    | b + 33 =>
      refine Kk_eq (by rw [x_sign]) Kk_no
theorem kk_take : ∀ (k b : Nat) (L : Nat → Int32) (σ : MS), Kf c σ → Kk c (x_take k b L σ) := by
  intro k
  induction k with
  | zero => intro b L σ _; exact Kk_no
  | succ k ih =>
    intro b L σ h
    match b with
    | 0 =>
      refine Kk_eq (by rw [x_take]) ?_
      exact Kk_ob (kk_skip _ _ _ _ h) (fun _ h3 => ih _ _ _ h3)
    | 1 =>
      refine Kk_eq (by rw [x_take]) ?_
      exact Kk_ite (ih _ _ _ h) (ih _ _ _ h)
    | 2 =>
      refine Kk_eq (by rw [x_take]) ?_
      exact Kk_ob (kk_byteAt _ _ _ _ h) (fun _ h4 => Kk_ob (kk_isLetter _ _ _ _ h4) (fun _ h5 => Kk_ite (ih _ _ _ h5) (ih _ _ _ h5)))
    | 3 =>
      refine Kk_eq (by rw [x_take]) ?_
      exact Kk_ob (kk_byteAt _ _ _ _ h) (fun _ h6 => Kk_ob (kk_isLetter _ _ _ _ h6) (fun _ h7 => Kk_ite (Kk_ob (kk_byteAt _ _ _ _ h7) (fun _ h8 => Kk_ob (kk_isDigit _ _ _ _ h8) (fun _ h9 => Kk_ite (Kk_ob (kk_byteAt _ _ _ _ h9) (fun _ h10 => Kk_ite (ih _ _ _ h10) (ih _ _ _ h10))) (ih _ _ _ h9)))) (ih _ _ _ h7)))
    | 4 =>
      refine Kk_eq (by rw [x_take]) ?_
      exact ih _ _ _ h
    | 5 =>
      refine Kk_eq (by rw [x_take]) ?_
      exact Kk_ob (kk_wordAt _ _ _ _ h) (fun _ h11 => ih _ _ _ h11)
    | 6 =>
      refine Kk_eq (by rw [x_take]) ?_
      exact Kk_ite (ih _ _ _ h) (ih _ _ _ h)
    | 7 =>
      refine Kk_eq (by rw [x_take]) ?_
      exact Kk_ite (ih _ _ _ h) (ih _ _ _ h)
    | 8 =>
      refine Kk_eq (by rw [x_take]) ?_
      exact ih _ _ _ h
    | 9 =>
      refine Kk_eq (by rw [x_take]) ?_
      exact ih _ _ _ h
    | 10 =>
      refine Kk_eq (by rw [x_take]) ?_
      exact Kk_ob (kk_byteAt _ _ _ _ h) (fun _ h12 => Kk_ob (kk_isDigit _ _ _ _ h12) (fun _ h13 => Kk_ite (ih _ _ _ h13) (ih _ _ _ h13)))
    | 11 =>
      refine Kk_eq (by rw [x_take]) ?_
      exact Kk_ob (kk_byteAt _ _ _ _ h) (fun _ h14 => Kk_ob (kk_isDigit _ _ _ _ h14) (fun _ h15 => Kk_ite (ih _ _ _ h15) (ih _ _ _ h15)))
    | 12 =>
      refine Kk_eq (by rw [x_take]) ?_
      exact Kk_ite (ih _ _ _ h) (ih _ _ _ h)
    | 13 =>
      refine Kk_eq (by rw [x_take]) ?_
      exact ih _ _ _ h
    | 14 =>
      refine Kk_eq (by rw [x_take]) ?_
      exact ih _ _ _ h
    | 15 =>
      refine Kk_eq (by rw [x_take]) ?_
      exact Kk_ob (kk_byteAt _ _ _ _ h) (fun _ h16 => Kk_ite (ih _ _ _ h16) (ih _ _ _ h16))
    | 16 =>
      refine Kk_eq (by rw [x_take]) ?_
      exact Kk_ite (ih _ _ _ h) (Kk_ite (Kk_ite (ih _ _ _ h) (Kk_ite (Kk_ite (ih _ _ _ h) (ih _ _ _ h)) (Kk_no))) (Kk_no))
    | 17 =>
      refine Kk_eq (by rw [x_take]) ?_
      exact Kk_ite (ih _ _ _ h) (Kk_ite (Kk_ite (ih _ _ _ h) (ih _ _ _ h)) (Kk_no))
    | 18 =>
      refine Kk_eq (by rw [x_take]) ?_
      exact ih _ _ _ h
    | 19 =>
      refine Kk_eq (by rw [x_take]) ?_
      exact Kk_ite (ih _ _ _ h) (Kk_ite (ih _ _ _ h) (ih _ _ _ h))
    | 20 =>
      refine Kk_eq (by rw [x_take]) ?_
      exact ih _ _ _ h
    | 21 =>
      refine Kk_eq (by rw [x_take]) ?_
      exact ih _ _ _ h
    | 22 =>
      refine Kk_eq (by rw [x_take]) ?_
      exact Kk_ite (ih _ _ _ h) (ih _ _ _ h)
    | 23 =>
      refine Kk_eq (by rw [x_take]) ?_
      exact ih _ _ _ h
    | 24 =>
      refine Kk_eq (by rw [x_take]) ?_
      exact ih _ _ _ h
    | 25 =>
      refine Kk_eq (by rw [x_take]) ?_
      exact Kk_ob (kk_byteAt _ _ _ _ h) (fun _ h17 => Kk_ob (kk_byteAt _ _ _ _ h17) (fun _ h18 => Kk_ob (kk_sign _ _ _ _ h18) (fun _ h19 => ih _ _ _ h19)))
    | 26 =>
      refine Kk_eq (by rw [x_take]) ?_
      exact Kk_ite (ih _ _ _ h) (ih _ _ _ h)
    | 27 =>
      refine Kk_eq (by rw [x_take]) ?_
      exact ih _ _ _ h
    | 28 =>
      refine Kk_eq (by rw [x_take]) ?_
      exact ih _ _ _ h
    | 29 =>
      refine Kk_eq (by rw [x_take]) ?_
      exact Kk_ite (ih _ _ _ h) (Kk_ite (ih _ _ _ h) (Kk_ite (ih _ _ _ h) (Kk_ite (ih _ _ _ h) (Kk_ite (ih _ _ _ h) (Kk_ite (ih _ _ _ h) (ih _ _ _ h))))))
    | 30 =>
      refine Kk_eq (by rw [x_take]) ?_
      exact ih _ _ _ h
    | 31 =>
      refine Kk_eq (by rw [x_take]) ?_
      exact ih _ _ _ h
    | 32 =>
      refine Kk_eq (by rw [x_take]) ?_
      exact ih _ _ _ h
    | 33 =>
      refine Kk_eq (by rw [x_take]) ?_
      exact ih _ _ _ h
    | 34 =>
      refine Kk_eq (by rw [x_take]) ?_
      exact Kk_ite (Kk_ob (kk_fault _ _ _ h) (fun _ h20 => ih _ _ _ h20)) (ih _ _ _ h)
    | 35 =>
      refine Kk_eq (by rw [x_take]) ?_
      exact Kk_so h
    | b + 36 =>
      refine Kk_eq (by rw [x_take]) Kk_no
theorem kk_isWord : ∀ (k b : Nat) (L : Nat → Int32) (σ : MS), Kf c σ → Kk c (x_isWord k b L σ) := by
  intro k
  induction k with
  | zero => intro b L σ _; exact Kk_no
  | succ k ih =>
    intro b L σ h
    match b with
    | 0 =>
      refine Kk_eq (by rw [x_isWord]) ?_
      exact Kk_ite (Kk_ite (ih _ _ _ h) (ih _ _ _ h)) (ih _ _ _ h)
    | 1 =>
      refine Kk_eq (by rw [x_isWord]) ?_
      exact ih _ _ _ h
    | 2 =>
      refine Kk_eq (by rw [x_isWord]) ?_
      exact Kk_ite (Kk_so h) (Kk_no)
    | b + 3 =>
      refine Kk_eq (by rw [x_isWord]) Kk_no
theorem kk_cannot : ∀ (k b : Nat) (L : Nat → Int32) (σ : MS), Kf c σ → Kk c (x_cannot k b L σ) := by
  intro k
  induction k with
  | zero => intro b L σ _; exact Kk_no
  | succ k ih =>
    intro b L σ h
    match b with
    | 0 =>
      refine Kk_eq (by rw [x_cannot]) ?_
      exact Kk_ob (kk_fault _ _ _ h) (fun _ h21 => Kk_so h21)
    | b + 1 =>
      refine Kk_eq (by rw [x_cannot]) Kk_no
theorem kk_wantName : ∀ (k b : Nat) (L : Nat → Int32) (σ : MS), Kf c σ → Kk c (x_wantName k b L σ) := by
  intro k
  induction k with
  | zero => intro b L σ _; exact Kk_no
  | succ k ih =>
    intro b L σ h
    match b with
    | 0 =>
      refine Kk_eq (by rw [x_wantName]) ?_
      exact Kk_ite (Kk_ite (ih _ _ _ h) (Kk_ob (kk_cannot _ _ _ _ h) (fun _ h22 => ih _ _ _ h22))) (ih _ _ _ h)
    | 1 =>
      refine Kk_eq (by rw [x_wantName]) ?_
      exact Kk_so h
    | b + 2 =>
      refine Kk_eq (by rw [x_wantName]) Kk_no
theorem kk_isNamed : ∀ (k b : Nat) (L : Nat → Int32) (σ : MS), Kf c σ → Kk c (x_isNamed k b L σ) := by
  intro k
  induction k with
  | zero => intro b L σ _; exact Kk_no
  | succ k ih =>
    intro b L σ h
    match b with
    | 0 =>
      refine Kk_eq (by rw [x_isNamed]) ?_
      exact Kk_ite (ih _ _ _ h) (Kk_so h)
    | 1 =>
      refine Kk_eq (by rw [x_isNamed]) ?_
      exact ih _ _ _ h
    | 2 =>
      refine Kk_eq (by rw [x_isNamed]) ?_
      exact Kk_ite (ih _ _ _ h) (Kk_ite (Kk_ite (Kk_ite (ih _ _ _ h) (Kk_so h)) (Kk_no)) (Kk_no))
    | 3 =>
      refine Kk_eq (by rw [x_isNamed]) ?_
      exact ih _ _ _ h
    | 4 =>
      refine Kk_eq (by rw [x_isNamed]) ?_
      exact Kk_so h
    | b + 5 =>
      refine Kk_eq (by rw [x_isNamed]) Kk_no
theorem kk_find : ∀ (k b : Nat) (L : Nat → Int32) (σ : MS), Kf c σ → Kk c (x_find k b L σ) := by
  intro k
  induction k with
  | zero => intro b L σ _; exact Kk_no
  | succ k ih =>
    intro b L σ h
    match b with
    | 0 =>
      refine Kk_eq (by rw [x_find]) ?_
      exact ih _ _ _ h
    | 1 =>
      refine Kk_eq (by rw [x_find]) ?_
      exact ih _ _ _ h
    | 2 =>
      refine Kk_eq (by rw [x_find]) ?_
      exact Kk_ite (ih _ _ _ h) (Kk_ite (Kk_ite (Kk_ob (kk_isNamed _ _ _ _ h) (fun _ h23 => Kk_ite (ih _ _ _ h23) (ih _ _ _ h23))) (Kk_no)) (Kk_no))
    | 3 =>
      refine Kk_eq (by rw [x_find]) ?_
      exact Kk_ite (ih _ _ _ h) (Kk_no)
    | 4 =>
      refine Kk_eq (by rw [x_find]) ?_
      exact Kk_ite (ih _ _ _ h) (ih _ _ _ h)
    | 5 =>
      refine Kk_eq (by rw [x_find]) ?_
      exact ih _ _ _ h
    | 6 =>
      refine Kk_eq (by rw [x_find]) ?_
      exact Kk_ite (Kk_so h) (Kk_no)
    | 7 =>
      refine Kk_eq (by rw [x_find]) ?_
      exact ih _ _ _ h
    | 8 =>
      refine Kk_eq (by rw [x_find]) ?_
      exact ih _ _ _ h
    | 9 =>
      refine Kk_eq (by rw [x_find]) ?_
      exact Kk_ite (ih _ _ _ h) (Kk_ite (Kk_ite (Kk_ob (kk_isNamed _ _ _ _ h) (fun _ h24 => Kk_ite (ih _ _ _ h24) (Kk_ite (ih _ _ _ h24) (Kk_no)))) (Kk_no)) (Kk_no))
    | 10 =>
      refine Kk_eq (by rw [x_find]) ?_
      exact Kk_ite (ih _ _ _ h) (Kk_no)
    | 11 =>
      refine Kk_eq (by rw [x_find]) ?_
      exact Kk_so h
    | 12 =>
      refine Kk_eq (by rw [x_find]) ?_
      exact ih _ _ _ h
    | 13 =>
      refine Kk_eq (by rw [x_find]) ?_
      exact Kk_so h
    | b + 14 =>
      refine Kk_eq (by rw [x_find]) Kk_no
theorem kk_newSlot : ∀ (k b : Nat) (L : Nat → Int32) (σ : MS), Kf c σ → Kk c (x_newSlot k b L σ) := by
  intro k
  induction k with
  | zero => intro b L σ _; exact Kk_no
  | succ k ih =>
    intro b L σ h
    match b with
    | 0 =>
      refine Kk_eq (by rw [x_newSlot]) ?_
      exact Kk_ite (Kk_ite (Kk_ob (kk_fault _ _ _ h) (fun _ h25 => Kk_so h25)) (ih _ _ _ h)) (Kk_no)
    | 1 =>
      refine Kk_eq (by rw [x_newSlot]) ?_
      exact Kk_ite (Kk_ite (ih _ _ _ h) (Kk_no)) (Kk_no)
    | 2 =>
      refine Kk_eq (by rw [x_newSlot]) ?_
      exact Kk_ite (Kk_ite (ih _ _ _ h) (Kk_no)) (Kk_no)
    | 3 =>
      refine Kk_eq (by rw [x_newSlot]) ?_
      exact Kk_ite (Kk_so h) (Kk_no)
    | b + 4 =>
      refine Kk_eq (by rw [x_newSlot]) Kk_no
theorem kk_keep : ∀ (k b : Nat) (L : Nat → Int32) (σ : MS), Kf c σ → Kk c (x_keep k b L σ) := by
  intro k
  induction k with
  | zero => intro b L σ _; exact Kk_no
  | succ k ih =>
    intro b L σ h
    match b with
    | 0 =>
      refine Kk_eq (by rw [x_keep]) ?_
      exact ih _ _ _ h
    | 1 =>
      refine Kk_eq (by rw [x_keep]) ?_
      exact Kk_ite (ih _ _ _ h) (Kk_ite (Kk_ite (ih _ _ _ h) (Kk_no)) (Kk_no))
    | 2 =>
      refine Kk_eq (by rw [x_keep]) ?_
      exact ih _ _ _ h
    | 3 =>
      refine Kk_eq (by rw [x_keep]) ?_
      exact ih _ _ _ h
    | 4 =>
      refine Kk_eq (by rw [x_keep]) ?_
      exact Kk_so h
    | b + 5 =>
      refine Kk_eq (by rw [x_keep]) Kk_no
theorem kk_tellEntity : ∀ (k b : Nat) (L : Nat → Int32) (σ : MS), Kf c σ → Kk c (x_tellEntity k b L σ) := by
  intro k
  induction k with
  | zero => intro b L σ _; exact Kk_no
  | succ k ih =>
    intro b L σ h
    match b with
    | 0 =>
      refine Kk_eq (by rw [x_tellEntity]) ?_
      exact Kk_ite (ih _ _ _ h) (Kk_no)
    | 1 =>
      refine Kk_eq (by rw [x_tellEntity]) ?_
      exact Kk_ob (kk_keep _ _ _ _ h) (fun _ h26 => Kk_ite (ih _ _ _ h26) (Kk_no))
    | 2 =>
      refine Kk_eq (by rw [x_tellEntity]) ?_
      exact Kk_ite (ih _ _ _ h) (Kk_no)
    | 3 =>
      refine Kk_eq (by rw [x_tellEntity]) ?_
      exact Kk_ite (ih _ _ _ h) (Kk_no)
    | 4 =>
      refine Kk_eq (by rw [x_tellEntity]) ?_
      exact Kk_so h
    | b + 5 =>
      refine Kk_eq (by rw [x_tellEntity]) Kk_no
theorem kk_see : ∀ (k b : Nat) (L : Nat → Int32) (σ : MS), Kf c σ → Kk c (x_see k b L σ) := by
  intro k
  induction k with
  | zero => intro b L σ _; exact Kk_no
  | succ k ih =>
    intro b L σ h
    match b with
    | 0 =>
      refine Kk_eq (by rw [x_see]) ?_
      exact Kk_ite (ih _ _ _ h) (Kk_no)
    | 1 =>
      refine Kk_eq (by rw [x_see]) ?_
      exact Kk_ite (ih _ _ _ h) (Kk_no)
    | 2 =>
      refine Kk_eq (by rw [x_see]) ?_
      exact Kk_ite (ih _ _ _ h) (Kk_no)
    | 3 =>
      refine Kk_eq (by rw [x_see]) ?_
      exact Kk_so h
    | b + 4 =>
      refine Kk_eq (by rw [x_see]) Kk_no
theorem kk_tellLocal : ∀ (k b : Nat) (L : Nat → Int32) (σ : MS), Kf c σ → Kk c (x_tellLocal k b L σ) := by
  intro k
  induction k with
  | zero => intro b L σ _; exact Kk_no
  | succ k ih =>
    intro b L σ h
    match b with
    | 0 =>
      refine Kk_eq (by rw [x_tellLocal]) ?_
      exact Kk_ob (kk_wantName _ _ _ _ h) (fun _ h27 => Kk_ite (ih _ _ _ h27) (Kk_so h27))
    | 1 =>
      refine Kk_eq (by rw [x_tellLocal]) ?_
      exact ih _ _ _ h
    | 2 =>
      refine Kk_eq (by rw [x_tellLocal]) ?_
      exact Kk_ite (ih _ _ _ h) (Kk_ite (Kk_ite (Kk_ob (kk_isNamed _ _ _ _ h) (fun _ h28 => Kk_ite (ih _ _ _ h28) (Kk_ob (kk_fault _ _ _ h28) (fun _ h29 => ih _ _ _ h29)))) (Kk_no)) (Kk_no))
    | 3 =>
      refine Kk_eq (by rw [x_tellLocal]) ?_
      exact ih _ _ _ h
    | 4 =>
      refine Kk_eq (by rw [x_tellLocal]) ?_
      exact Kk_ite (ih _ _ _ h) (ih _ _ _ h)
    | 5 =>
      refine Kk_eq (by rw [x_tellLocal]) ?_
      exact Kk_ob (kk_newSlot _ _ _ _ h) (fun _ h30 => ih _ _ _ h30)
    | 6 =>
      refine Kk_eq (by rw [x_tellLocal]) ?_
      exact Kk_ite (Kk_ob (kk_keep _ _ _ _ h) (fun _ h31 => Kk_ob (kk_see _ _ _ _ h31) (fun _ h32 => Kk_ob (kk_take _ _ _ _ h32) (fun _ h33 => ih _ _ _ h33)))) (ih _ _ _ h)
    | 7 =>
      refine Kk_eq (by rw [x_tellLocal]) ?_
      exact Kk_so h
    | b + 8 =>
      refine Kk_eq (by rw [x_tellLocal]) Kk_no
theorem kk_isSign : ∀ (k b : Nat) (L : Nat → Int32) (σ : MS), Kf c σ → Kk c (x_isSign k b L σ) := by
  intro k
  induction k with
  | zero => intro b L σ _; exact Kk_no
  | succ k ih =>
    intro b L σ h
    match b with
    | 0 =>
      refine Kk_eq (by rw [x_isSign]) ?_
      exact Kk_ite (Kk_ite (ih _ _ _ h) (ih _ _ _ h)) (ih _ _ _ h)
    | 1 =>
      refine Kk_eq (by rw [x_isSign]) ?_
      exact ih _ _ _ h
    | 2 =>
      refine Kk_eq (by rw [x_isSign]) ?_
      exact Kk_ite (Kk_so h) (Kk_no)
    | b + 3 =>
      refine Kk_eq (by rw [x_isSign]) Kk_no
theorem kk_want : ∀ (k b : Nat) (L : Nat → Int32) (σ : MS), Kf c σ → Kk c (x_want k b L σ) := by
  intro k
  induction k with
  | zero => intro b L σ _; exact Kk_no
  | succ k ih =>
    intro b L σ h
    match b with
    | 0 =>
      refine Kk_eq (by rw [x_want]) ?_
      exact Kk_ite (Kk_ob (kk_isSign _ _ _ _ h) (fun _ h34 => Kk_ite (Kk_ob (kk_cannot _ _ _ _ h34) (fun _ h35 => ih _ _ _ h35)) (ih _ _ _ h34))) (ih _ _ _ h)
    | 1 =>
      refine Kk_eq (by rw [x_want]) ?_
      exact Kk_ite (Kk_ob (kk_take _ _ _ _ h) (fun _ h36 => ih _ _ _ h36)) (ih _ _ _ h)
    | 2 =>
      refine Kk_eq (by rw [x_want]) ?_
      exact Kk_so h
    | b + 3 =>
      refine Kk_eq (by rw [x_want]) Kk_no
theorem kk_declareVar : ∀ (k b : Nat) (L : Nat → Int32) (σ : MS), Kf c σ → Kk c (x_declareVar k b L σ) := by
  intro k
  induction k with
  | zero => intro b L σ _; exact Kk_no
  | succ k ih =>
    intro b L σ h
    match b with
    | 0 =>
      refine Kk_eq (by rw [x_declareVar]) ?_
      exact Kk_ob (kk_take _ _ _ _ h) (fun _ h37 => ih _ _ _ h37)
    | 1 =>
      refine Kk_eq (by rw [x_declareVar]) ?_
      exact Kk_ite (ih _ _ _ h) (Kk_ite (Kk_ob (kk_wantName _ _ _ _ h) (fun _ h38 => Kk_ite (ih _ _ _ h38) (Kk_so h38))) (ih _ _ _ h))
    | 2 =>
      refine Kk_eq (by rw [x_declareVar]) ?_
      exact Kk_ite (Kk_ob (kk_find _ _ _ _ h) (fun _ h39 => Kk_ite (ih _ _ _ h39) (Kk_ob (kk_fault _ _ _ h39) (fun _ h40 => ih _ _ _ h40)))) (ih _ _ _ h)
    | 3 =>
      refine Kk_eq (by rw [x_declareVar]) ?_
      exact Kk_ite (ih _ _ _ h) (ih _ _ _ h)
    | 4 =>
      refine Kk_eq (by rw [x_declareVar]) ?_
      exact Kk_ob (kk_newSlot _ _ _ _ h) (fun _ h41 => ih _ _ _ h41)
    | 5 =>
      refine Kk_eq (by rw [x_declareVar]) ?_
      exact Kk_ite (Kk_ob (kk_tellEntity _ _ _ _ h) (fun _ h42 => Kk_ob (kk_take _ _ _ _ h42) (fun _ h43 => ih _ _ _ h43))) (ih _ _ _ h)
    | 6 =>
      refine Kk_eq (by rw [x_declareVar]) ?_
      exact ih _ _ _ h
    | 7 =>
      refine Kk_eq (by rw [x_declareVar]) ?_
      exact Kk_ob (kk_tellLocal _ _ _ _ h) (fun _ h44 => ih _ _ _ h44)
    | 8 =>
      refine Kk_eq (by rw [x_declareVar]) ?_
      exact Kk_ite (Kk_ob (kk_isSign _ _ _ _ h) (fun _ h45 => Kk_ite (ih _ _ _ h45) (ih _ _ _ h45))) (ih _ _ _ h)
    | 9 =>
      refine Kk_eq (by rw [x_declareVar]) ?_
      exact ih _ _ _ h
    | 10 =>
      refine Kk_eq (by rw [x_declareVar]) ?_
      exact Kk_ite (ih _ _ _ h) (Kk_ob (kk_take _ _ _ _ h) (fun _ h46 => ih _ _ _ h46))
    | 11 =>
      refine Kk_eq (by rw [x_declareVar]) ?_
      exact Kk_ob (kk_want _ _ _ _ h) (fun _ h47 => Kk_so h47)
    | b + 12 =>
      refine Kk_eq (by rw [x_declareVar]) Kk_no
theorem kk_open : ∀ (k b : Nat) (L : Nat → Int32) (σ : MS), Kf c σ → Kk c (x_open k b L σ) := by
  intro k
  induction k with
  | zero => intro b L σ _; exact Kk_no
  | succ k ih =>
    intro b L σ h
    match b with
    | 0 =>
      refine Kk_eq (by rw [x_open]) ?_
      exact Kk_ite (Kk_ob (kk_fault _ _ _ h) (fun _ h48 => ih _ _ _ h48)) (ih _ _ _ h)
    | 1 =>
      refine Kk_eq (by rw [x_open]) ?_
      exact Kk_so h
    | b + 2 =>
      refine Kk_eq (by rw [x_open]) Kk_no
theorem kk_paramsOf : ∀ (k b : Nat) (L : Nat → Int32) (σ : MS), Kf c σ → Kk c (x_paramsOf k b L σ) := by
  intro k
  induction k with
  | zero => intro b L σ _; exact Kk_no
  | succ k ih =>
    intro b L σ h
    match b with
    | 0 =>
      refine Kk_eq (by rw [x_paramsOf]) ?_
      exact ih _ _ _ h
    | 1 =>
      refine Kk_eq (by rw [x_paramsOf]) ?_
      exact Kk_ite (Kk_ite (ih _ _ _ h) (Kk_ob (kk_isSign _ _ _ _ h) (fun _ h49 => Kk_ite (ih _ _ _ h49) (ih _ _ _ h49)))) (ih _ _ _ h)
    | 2 =>
      refine Kk_eq (by rw [x_paramsOf]) ?_
      exact Kk_ite (ih _ _ _ h) (Kk_ob (kk_isSign _ _ _ _ h) (fun _ h50 => Kk_ite (ih _ _ _ h50) (ih _ _ _ h50)))
    | 3 =>
      refine Kk_eq (by rw [x_paramsOf]) ?_
      exact Kk_ite (ih _ _ _ h) (Kk_ob (kk_take _ _ _ _ h) (fun _ h51 => ih _ _ _ h51))
    | 4 =>
      refine Kk_eq (by rw [x_paramsOf]) ?_
      exact Kk_ite (Kk_ite (ih _ _ _ h) (Kk_ob (kk_isWord _ _ _ _ h) (fun _ h52 => Kk_ite (Kk_ob (kk_isWord _ _ _ _ h52) (fun _ h53 => Kk_ite (Kk_ob (kk_isWord _ _ _ _ h53) (fun _ h54 => Kk_ite (ih _ _ _ h54) (ih _ _ _ h54))) (ih _ _ _ h53))) (ih _ _ _ h52)))) (ih _ _ _ h)
    | 5 =>
      refine Kk_eq (by rw [x_paramsOf]) ?_
      exact Kk_ite (ih _ _ _ h) (ih _ _ _ h)
    | 6 =>
      refine Kk_eq (by rw [x_paramsOf]) ?_
      exact Kk_ite (ih _ _ _ h) (ih _ _ _ h)
    | 7 =>
      refine Kk_eq (by rw [x_paramsOf]) ?_
      exact ih _ _ _ h
    | 8 =>
      refine Kk_eq (by rw [x_paramsOf]) ?_
      exact Kk_ob (kk_take _ _ _ _ h) (fun _ h55 => ih _ _ _ h55)
    | 9 =>
      refine Kk_eq (by rw [x_paramsOf]) ?_
      exact Kk_ob (kk_wantName _ _ _ _ h) (fun _ h56 => Kk_ite (Kk_ite (ih _ _ _ h56) (ih _ _ _ h56)) (ih _ _ _ h56))
    | 10 =>
      refine Kk_eq (by rw [x_paramsOf]) ?_
      exact Kk_ite (ih _ _ _ h) (Kk_ite (Kk_ite (Kk_ob (kk_isNamed _ _ _ _ h) (fun _ h57 => Kk_ite (ih _ _ _ h57) (Kk_ob (kk_fault _ _ _ h57) (fun _ h58 => ih _ _ _ h58)))) (Kk_no)) (Kk_no))
    | 11 =>
      refine Kk_eq (by rw [x_paramsOf]) ?_
      exact ih _ _ _ h
    | 12 =>
      refine Kk_eq (by rw [x_paramsOf]) ?_
      exact Kk_ob (kk_fault _ _ _ h) (fun _ h59 => ih _ _ _ h59)
    | 13 =>
      refine Kk_eq (by rw [x_paramsOf]) ?_
      exact Kk_ite (Kk_ob (kk_tellLocal _ _ _ _ h) (fun _ h60 => ih _ _ _ h60)) (ih _ _ _ h)
    | 14 =>
      refine Kk_eq (by rw [x_paramsOf]) ?_
      exact Kk_ite (Kk_ite (ih _ _ _ h) (Kk_no)) (ih _ _ _ h)
    | 15 =>
      refine Kk_eq (by rw [x_paramsOf]) ?_
      exact Kk_ite (ih _ _ _ h) (Kk_no)
    | 16 =>
      refine Kk_eq (by rw [x_paramsOf]) ?_
      exact ih _ _ _ h
    | 17 =>
      refine Kk_eq (by rw [x_paramsOf]) ?_
      exact Kk_ite (Kk_ob (kk_isSign _ _ _ _ h) (fun _ h61 => Kk_ite (Kk_ob (kk_cannot _ _ _ _ h61) (fun _ h62 => ih _ _ _ h62)) (ih _ _ _ h61))) (ih _ _ _ h)
    | 18 =>
      refine Kk_eq (by rw [x_paramsOf]) ?_
      exact Kk_so h
    | b + 19 =>
      refine Kk_eq (by rw [x_paramsOf]) Kk_no
theorem kk_isBlockEnd : ∀ (k b : Nat) (L : Nat → Int32) (σ : MS), Kf c σ → Kk c (x_isBlockEnd k b L σ) := by
  intro k
  induction k with
  | zero => intro b L σ _; exact Kk_no
  | succ k ih =>
    intro b L σ h
    match b with
    | 0 =>
      refine Kk_eq (by rw [x_isBlockEnd]) ?_
      exact Kk_ite (ih _ _ _ h) (Kk_ob (kk_isWord _ _ _ _ h) (fun _ h63 => Kk_ite (Kk_ob (kk_isWord _ _ _ _ h63) (fun _ h64 => Kk_ite (Kk_ob (kk_isWord _ _ _ _ h64) (fun _ h65 => Kk_ite (ih _ _ _ h65) (ih _ _ _ h65))) (ih _ _ _ h64))) (ih _ _ _ h63)))
    | 1 =>
      refine Kk_eq (by rw [x_isBlockEnd]) ?_
      exact ih _ _ _ h
    | 2 =>
      refine Kk_eq (by rw [x_isBlockEnd]) ?_
      exact ih _ _ _ h
    | 3 =>
      refine Kk_eq (by rw [x_isBlockEnd]) ?_
      exact Kk_ite (Kk_so h) (Kk_no)
    | b + 4 =>
      refine Kk_eq (by rw [x_isBlockEnd]) Kk_no
theorem kk_node : ∀ (k b : Nat) (L : Nat → Int32) (σ : MS), Kf c σ → Kk c (x_node k b L σ) := by
  intro k
  induction k with
  | zero => intro b L σ _; exact Kk_no
  | succ k ih =>
    intro b L σ h
    match b with
    | 0 =>
      refine Kk_eq (by rw [x_node]) ?_
      exact ih _ _ _ h
    | 1 =>
      refine Kk_eq (by rw [x_node]) ?_
      exact Kk_ite (ih _ _ _ h) (Kk_no)
    | 2 =>
      refine Kk_eq (by rw [x_node]) ?_
      exact Kk_ite (ih _ _ _ h) (Kk_no)
    | 3 =>
      refine Kk_eq (by rw [x_node]) ?_
      exact Kk_ite (ih _ _ _ h) (Kk_no)
    | 4 =>
      refine Kk_eq (by rw [x_node]) ?_
      exact Kk_ite (ih _ _ _ h) (Kk_no)
    | 5 =>
      refine Kk_eq (by rw [x_node]) ?_
      exact Kk_ite (ih _ _ _ h) (Kk_no)
    | 6 =>
      refine Kk_eq (by rw [x_node]) ?_
      exact Kk_ite (ih _ _ _ h) (Kk_no)
    | 7 =>
      refine Kk_eq (by rw [x_node]) ?_
      exact Kk_so h
    | b + 8 =>
      refine Kk_eq (by rw [x_node]) Kk_no
theorem kk_wrapped : ∀ (k b : Nat) (L : Nat → Int32) (σ : MS), Kf c σ → Kk c (x_wrapped k b L σ) := by
  intro k
  induction k with
  | zero => intro b L σ _; exact Kk_no
  | succ k ih =>
    intro b L σ h
    match b with
    | 0 =>
      refine Kk_eq (by rw [x_wrapped]) ?_
      exact Kk_ob (kk_node _ _ _ _ h) (fun _ h66 => Kk_ite (ih _ _ _ h66) (Kk_no))
    | 1 =>
      refine Kk_eq (by rw [x_wrapped]) ?_
      exact Kk_so h
    | b + 2 =>
      refine Kk_eq (by rw [x_wrapped]) Kk_no
theorem kk_wantWord : ∀ (k b : Nat) (L : Nat → Int32) (σ : MS), Kf c σ → Kk c (x_wantWord k b L σ) := by
  intro k
  induction k with
  | zero => intro b L σ _; exact Kk_no
  | succ k ih =>
    intro b L σ h
    match b with
    | 0 =>
      refine Kk_eq (by rw [x_wantWord]) ?_
      exact Kk_ite (Kk_ob (kk_isWord _ _ _ _ h) (fun _ h67 => Kk_ite (Kk_ob (kk_cannot _ _ _ _ h67) (fun _ h68 => ih _ _ _ h68)) (ih _ _ _ h67))) (ih _ _ _ h)
    | 1 =>
      refine Kk_eq (by rw [x_wantWord]) ?_
      exact Kk_ite (Kk_ob (kk_take _ _ _ _ h) (fun _ h69 => ih _ _ _ h69)) (ih _ _ _ h)
    | 2 =>
      refine Kk_eq (by rw [x_wantWord]) ?_
      exact Kk_so h
    | b + 3 =>
      refine Kk_eq (by rw [x_wantWord]) Kk_no
theorem kk_over : ∀ (k b : Nat) (L : Nat → Int32) (σ : MS), Kf c σ → Kk c (x_over k b L σ) := by
  intro k
  induction k with
  | zero => intro b L σ _; exact Kk_no
  | succ k ih =>
    intro b L σ h
    match b with
    | 0 =>
      refine Kk_eq (by rw [x_over]) ?_
      exact Kk_ob (kk_node _ _ _ _ h) (fun _ h70 => Kk_ite (ih _ _ _ h70) (Kk_no))
    | 1 =>
      refine Kk_eq (by rw [x_over]) ?_
      exact Kk_so h
    | b + 2 =>
      refine Kk_eq (by rw [x_over]) Kk_no
theorem kk_tellName : ∀ (k b : Nat) (L : Nat → Int32) (σ : MS), Kf c σ → Kk c (x_tellName k b L σ) := by
  intro k
  induction k with
  | zero => intro b L σ _; exact Kk_no
  | succ k ih =>
    intro b L σ h
    match b with
    | 0 =>
      refine Kk_eq (by rw [x_tellName]) ?_
      exact Kk_ob (kk_wantName _ _ _ _ h) (fun _ h71 => Kk_ite (ih _ _ _ h71) (Kk_so h71))
    | 1 =>
      refine Kk_eq (by rw [x_tellName]) ?_
      exact ih _ _ _ h
    | 2 =>
      refine Kk_eq (by rw [x_tellName]) ?_
      exact Kk_ite (ih _ _ _ h) (Kk_ite (Kk_ite (Kk_ob (kk_isNamed _ _ _ _ h) (fun _ h72 => Kk_ite (ih _ _ _ h72) (Kk_ob (kk_fault _ _ _ h72) (fun _ h73 => ih _ _ _ h73)))) (Kk_no)) (Kk_no))
    | 3 =>
      refine Kk_eq (by rw [x_tellName]) ?_
      exact ih _ _ _ h
    | 4 =>
      refine Kk_eq (by rw [x_tellName]) ?_
      exact Kk_ite (ih _ _ _ h) (ih _ _ _ h)
    | 5 =>
      refine Kk_eq (by rw [x_tellName]) ?_
      exact Kk_ob (kk_newSlot _ _ _ _ h) (fun _ h74 => ih _ _ _ h74)
    | 6 =>
      refine Kk_eq (by rw [x_tellName]) ?_
      exact Kk_ite (ih _ _ _ h) (Kk_so h)
    | 7 =>
      refine Kk_eq (by rw [x_tellName]) ?_
      exact Kk_ob (kk_keep _ _ _ _ h) (fun _ h75 => Kk_ite (ih _ _ _ h75) (Kk_no))
    | 8 =>
      refine Kk_eq (by rw [x_tellName]) ?_
      exact Kk_ite (ih _ _ _ h) (Kk_no)
    | 9 =>
      refine Kk_eq (by rw [x_tellName]) ?_
      exact Kk_ite (ih _ _ _ h) (Kk_no)
    | 10 =>
      refine Kk_eq (by rw [x_tellName]) ?_
      exact ih _ _ _ h
    | 11 =>
      refine Kk_eq (by rw [x_tellName]) ?_
      exact Kk_ite (ih _ _ _ h) (ih _ _ _ h)
    | 12 =>
      refine Kk_eq (by rw [x_tellName]) ?_
      exact ih _ _ _ h
    | 13 =>
      refine Kk_eq (by rw [x_tellName]) ?_
      exact Kk_ob (kk_node _ _ _ _ h) (fun _ h76 => Kk_ob (kk_take _ _ _ _ h76) (fun _ h77 => Kk_so h77))
    | b + 14 =>
      refine Kk_eq (by rw [x_tellName]) Kk_no
theorem kk_pattern : ∀ (k b : Nat) (L : Nat → Int32) (σ : MS), Kf c σ → Kk c (x_pattern k b L σ) := by
  intro k
  induction k with
  | zero => intro b L σ _; exact Kk_no
  | succ k ih =>
    intro b L σ h
    match b with
    | 0 =>
      refine Kk_eq (by rw [x_pattern]) ?_
      exact Kk_ob (kk_open _ _ _ _ h) (fun _ h78 => Kk_ite (Kk_ob (kk_take _ _ _ _ h78) (fun _ h79 => ih _ _ _ h79)) (ih _ _ _ h78))
    | 1 =>
      refine Kk_eq (by rw [x_pattern]) ?_
      exact Kk_ob (kk_tellName _ _ _ _ h) (fun _ h80 => ih _ _ _ h80)
    | 2 =>
      refine Kk_eq (by rw [x_pattern]) ?_
      exact Kk_ite (Kk_ob (kk_isSign _ _ _ _ h) (fun _ h81 => Kk_ite (ih _ _ _ h81) (Kk_ob (kk_take _ _ _ _ h81) (fun _ h82 => Kk_ob (kk_tellName _ _ _ _ h82) (fun _ h83 => Kk_ite (Kk_ite (ih _ _ _ h83) (Kk_no)) (ih _ _ _ h83)))))) (ih _ _ _ h)
    | 3 =>
      refine Kk_eq (by rw [x_pattern]) ?_
      exact ih _ _ _ h
    | 4 =>
      refine Kk_eq (by rw [x_pattern]) ?_
      exact ih _ _ _ h
    | 5 =>
      refine Kk_eq (by rw [x_pattern]) ?_
      exact Kk_ob (kk_want _ _ _ _ h) (fun _ h84 => ih _ _ _ h84)
    | 6 =>
      refine Kk_eq (by rw [x_pattern]) ?_
      exact Kk_so h
    | b + 7 =>
      refine Kk_eq (by rw [x_pattern]) Kk_no
theorem kk_operator : ∀ (k b : Nat) (L : Nat → Int32) (σ : MS), Kf c σ → Kk c (x_operator k b L σ) := by
  intro k
  induction k with
  | zero => intro b L σ _; exact Kk_no
  | succ k ih =>
    intro b L σ h
    match b with
    | 0 =>
      refine Kk_eq (by rw [x_operator]) ?_
      exact Kk_ite (ih _ _ _ h) (ih _ _ _ h)
    | 1 =>
      refine Kk_eq (by rw [x_operator]) ?_
      exact ih _ _ _ h
    | 2 =>
      refine Kk_eq (by rw [x_operator]) ?_
      exact Kk_so h
    | b + 3 =>
      refine Kk_eq (by rw [x_operator]) Kk_no
theorem kk_isRelation : ∀ (k b : Nat) (L : Nat → Int32) (σ : MS), Kf c σ → Kk c (x_isRelation k b L σ) := by
  intro k
  induction k with
  | zero => intro b L σ _; exact Kk_no
  | succ k ih =>
    intro b L σ h
    match b with
    | 0 =>
      refine Kk_eq (by rw [x_isRelation]) ?_
      exact Kk_ite (Kk_ite (ih _ _ _ h) (Kk_ite (ih _ _ _ h) (ih _ _ _ h))) (ih _ _ _ h)
    | 1 =>
      refine Kk_eq (by rw [x_isRelation]) ?_
      exact Kk_ob (kk_isWord _ _ _ _ h) (fun _ h85 => Kk_ite (Kk_ob (kk_isWord _ _ _ _ h85) (fun _ h86 => Kk_ite (Kk_ob (kk_isWord _ _ _ _ h86) (fun _ h87 => Kk_ite (ih _ _ _ h87) (ih _ _ _ h87))) (ih _ _ _ h86))) (ih _ _ _ h85))
    | 2 =>
      refine Kk_eq (by rw [x_isRelation]) ?_
      exact ih _ _ _ h
    | 3 =>
      refine Kk_eq (by rw [x_isRelation]) ?_
      exact ih _ _ _ h
    | 4 =>
      refine Kk_eq (by rw [x_isRelation]) ?_
      exact Kk_ite (Kk_so h) (Kk_no)
    | b + 5 =>
      refine Kk_eq (by rw [x_isRelation]) Kk_no
theorem kk_named : ∀ (k b : Nat) (L : Nat → Int32) (σ : MS), Kf c σ → Kk c (x_named k b L σ) := by
  intro k
  induction k with
  | zero => intro b L σ _; exact Kk_no
  | succ k ih =>
    intro b L σ h
    match b with
    | 0 =>
      refine Kk_eq (by rw [x_named]) ?_
      exact Kk_ob (kk_node _ _ _ _ h) (fun _ h88 => Kk_ob (kk_take _ _ _ _ h88) (fun _ h89 => Kk_so h89))
    | b + 1 =>
      refine Kk_eq (by rw [x_named]) Kk_no
theorem kk_s_brackets {X : Nat → Nat → Nat → (Nat → Int32) → MS → Option (Int32 × MS)} (hX : ∀ e m b L (σ : MS), Kf c σ → Kk c (X e m b L σ)) (k d b : Nat) (L : Nat → Int32) (σ : MS) (h : Kf c σ) : Kk c (s_brackets X k d b L σ) := by
  match b with
  | 0 => exact Kk_ob (kk_isSign _ _ _ _ h) (fun _ h90 => Kk_ite (hX _ _ _ _ _ h90) (hX _ _ _ _ _ h90))
  | 1 => exact hX _ _ _ _ _ h
  | 2 => exact Kk_ite (hX _ _ _ _ _ h) (hX _ _ _ _ _ h)
  | 3 => exact hX _ _ _ _ _ h
  | 4 => exact Kk_ob (kk_open _ _ _ _ h) (fun _ h91 => Kk_ite (Kk_ob (kk_take _ _ _ _ h91) (fun _ h92 => hX _ _ _ _ _ h92)) (hX _ _ _ _ _ h91))
  | 5 => exact Kk_ite (hX _ _ _ _ _ h) (Kk_so h)
  | 6 => exact Kk_ob (kk_isSign _ _ _ _ h) (fun _ h93 => Kk_ite (hX _ _ _ _ _ h93) (Kk_ite (hX _ _ _ _ _ h93) (hX _ _ _ _ _ h93)))
  | 7 => exact hX _ _ _ _ _ h
  | 8 => exact Kk_ob (kk_node _ _ _ _ h) (fun _ h94 => hX _ _ _ _ _ h94)
  | 9 => exact Kk_ob (kk_isWord _ _ _ _ h) (fun _ h95 => Kk_ite (hX _ _ _ _ _ h95) (Kk_ob (kk_take _ _ _ _ h95) (fun _ h96 => Kk_od (fun _ => Kk_ob (hX _ _ _ _ _ h96) (fun _ h97 => Kk_ite (Kk_ob (kk_isSign _ _ _ _ h97) (fun _ h98 => Kk_ite (hX _ _ _ _ _ h98) (Kk_ob (kk_take _ _ _ _ h98) (fun _ h99 => Kk_od (fun _ => Kk_ob (hX _ _ _ _ _ h99) (fun _ h100 => hX _ _ _ _ _ h100)))))) (hX _ _ _ _ _ h97))))))
  | 10 => exact Kk_ob (kk_want _ _ _ _ h) (fun _ h101 => Kk_od (fun _ => Kk_ob (hX _ _ _ _ _ h101) (fun _ h102 => Kk_ob (kk_wrapped _ _ _ _ h102) (fun _ h103 => hX _ _ _ _ _ h103))))
  | 11 => exact Kk_od (fun _ => Kk_ob (hX _ _ _ _ _ h) (fun _ h104 => hX _ _ _ _ _ h104))
  | 12 => exact Kk_ob (kk_want _ _ _ _ h) (fun _ h105 => hX _ _ _ _ _ h105)
  | 13 => exact Kk_so h
  | b + 14 => exact Kk_no
theorem kk_s_choice {X : Nat → Nat → Nat → (Nat → Int32) → MS → Option (Int32 × MS)} (hX : ∀ e m b L (σ : MS), Kf c σ → Kk c (X e m b L σ)) (k d b : Nat) (L : Nat → Int32) (σ : MS) (h : Kf c σ) : Kk c (s_choice X k d b L σ) := by
  match b with
  | 0 => exact Kk_ob (kk_open _ _ _ _ h) (fun _ h106 => Kk_ite (Kk_ob (kk_take _ _ _ _ h106) (fun _ h107 => hX _ _ _ _ _ h107)) (hX _ _ _ _ _ h106))
  | 1 => exact Kk_od (fun _ => Kk_ob (hX _ _ _ _ _ h) (fun _ h108 => Kk_ob (kk_wantWord _ _ _ _ h108) (fun _ h109 => Kk_od (fun _ => Kk_ob (hX _ _ _ _ _ h109) (fun _ h110 => Kk_ob (kk_node _ _ _ _ h110) (fun _ h111 => hX _ _ _ _ _ h111))))))
  | 2 => exact Kk_ite (Kk_ob (kk_isWord _ _ _ _ h) (fun _ h112 => Kk_ite (hX _ _ _ _ _ h112) (Kk_ob (kk_take _ _ _ _ h112) (fun _ h113 => Kk_od (fun _ => Kk_ob (hX _ _ _ _ _ h113) (fun _ h114 => Kk_ob (kk_wantWord _ _ _ _ h114) (fun _ h115 => Kk_od (fun _ => Kk_ob (hX _ _ _ _ _ h115) (fun _ h116 => Kk_ob (kk_node _ _ _ _ h116) (fun _ h117 => Kk_ite (hX _ _ _ _ _ h117) (Kk_no))))))))))) (hX _ _ _ _ _ h)
  | 3 => exact Kk_ite (hX _ _ _ _ _ h) (Kk_no)
  | 4 => exact Kk_ob (kk_wantWord _ _ _ _ h) (fun _ h118 => Kk_od (fun _ => Kk_ob (hX _ _ _ _ _ h118) (fun _ h119 => Kk_ob (kk_node _ _ _ _ h119) (fun _ h120 => Kk_ite (hX _ _ _ _ _ h120) (Kk_no)))))
  | 5 => exact Kk_ob (kk_wantWord _ _ _ _ h) (fun _ h121 => hX _ _ _ _ _ h121)
  | 6 => exact Kk_ob (kk_node _ _ _ _ h) (fun _ h122 => Kk_so h122)
  | b + 7 => exact Kk_no
theorem kk_s_conjunction {X : Nat → Nat → Nat → (Nat → Int32) → MS → Option (Int32 × MS)} (hX : ∀ e m b L (σ : MS), Kf c σ → Kk c (X e m b L σ)) (k d b : Nat) (L : Nat → Int32) (σ : MS) (h : Kf c σ) : Kk c (s_conjunction X k d b L σ) := by
  match b with
  | 0 => exact Kk_od (fun _ => Kk_ob (hX _ _ _ _ _ h) (fun _ h123 => hX _ _ _ _ _ h123))
  | 1 => exact Kk_ite (Kk_ob (kk_isWord _ _ _ _ h) (fun _ h124 => Kk_ite (hX _ _ _ _ _ h124) (Kk_ob (kk_take _ _ _ _ h124) (fun _ h125 => Kk_od (fun _ => Kk_ob (hX _ _ _ _ _ h125) (fun _ h126 => Kk_ob (kk_over _ _ _ _ h126) (fun _ h127 => hX _ _ _ _ _ h127))))))) (hX _ _ _ _ _ h)
  | 2 => exact Kk_so h
  | b + 3 => exact Kk_no
theorem kk_s_exp {X : Nat → Nat → Nat → (Nat → Int32) → MS → Option (Int32 × MS)} (hX : ∀ e m b L (σ : MS), Kf c σ → Kk c (X e m b L σ)) (k d b : Nat) (L : Nat → Int32) (σ : MS) (h : Kf c σ) : Kk c (s_exp X k d b L σ) := by
  match b with
  | 0 => exact Kk_od (fun _ => Kk_ob (hX _ _ _ _ _ h) (fun _ h128 => hX _ _ _ _ _ h128))
  | 1 => exact Kk_ite (Kk_ob (kk_isWord _ _ _ _ h) (fun _ h129 => Kk_ite (hX _ _ _ _ _ h129) (Kk_ob (kk_take _ _ _ _ h129) (fun _ h130 => Kk_od (fun _ => Kk_ob (hX _ _ _ _ _ h130) (fun _ h131 => Kk_ob (kk_over _ _ _ _ h131) (fun _ h132 => hX _ _ _ _ _ h132))))))) (hX _ _ _ _ _ h)
  | 2 => exact Kk_so h
  | b + 3 => exact Kk_no
theorem kk_s_iters {X : Nat → Nat → Nat → (Nat → Int32) → MS → Option (Int32 × MS)} (hX : ∀ e m b L (σ : MS), Kf c σ → Kk c (X e m b L σ)) (k d b : Nat) (L : Nat → Int32) (σ : MS) (h : Kf c σ) : Kk c (s_iters X k d b L σ) := by
  match b with
  | 0 => exact hX _ _ _ _ _ h
  | 1 => exact Kk_ite (hX _ _ _ _ _ h) (Kk_ite (Kk_ob (kk_isSign _ _ _ _ h) (fun _ h133 => Kk_ite (hX _ _ _ _ _ h133) (hX _ _ _ _ _ h133))) (hX _ _ _ _ _ h))
  | 2 => exact hX _ _ _ _ _ h
  | 3 => exact Kk_ite (Kk_ob (kk_pattern _ _ _ _ h) (fun _ h134 => hX _ _ _ _ _ h134)) (hX _ _ _ _ _ h)
  | 4 => exact Kk_ob (kk_tellName _ _ _ _ h) (fun _ h135 => hX _ _ _ _ _ h135)
  | 5 => exact Kk_ob (kk_wantWord _ _ _ _ h) (fun _ h136 => Kk_od (fun _ => Kk_ob (hX _ _ _ _ _ h136) (fun _ h137 => Kk_ob (kk_node _ _ _ _ h137) (fun _ h138 => Kk_ite (hX _ _ _ _ _ h138) (hX _ _ _ _ _ h138)))))
  | 6 => exact Kk_ite (hX _ _ _ _ _ h) (Kk_no)
  | 7 => exact hX _ _ _ _ _ h
  | 8 => exact Kk_ite (hX _ _ _ _ _ h) (Kk_ite (Kk_ite (Kk_ite (Kk_ite (Kk_ob (kk_see _ _ _ _ h) (fun _ h139 => hX _ _ _ _ _ h139)) (Kk_no)) (Kk_no)) (Kk_no)) (hX _ _ _ _ _ h))
  | 9 => exact Kk_ite (Kk_ob (kk_isSign _ _ _ _ h) (fun _ h140 => Kk_ite (hX _ _ _ _ _ h140) (hX _ _ _ _ _ h140))) (hX _ _ _ _ _ h)
  | 10 => exact hX _ _ _ _ _ h
  | 11 => exact Kk_ite (hX _ _ _ _ _ h) (Kk_ob (kk_take _ _ _ _ h) (fun _ h141 => hX _ _ _ _ _ h141))
  | 12 => exact hX _ _ _ _ _ h
  | 13 => exact hX _ _ _ _ _ h
  | 14 => exact Kk_so h
  | b + 15 => exact Kk_no
theorem kk_s_listed {X : Nat → Nat → Nat → (Nat → Int32) → MS → Option (Int32 × MS)} (hX : ∀ e m b L (σ : MS), Kf c σ → Kk c (X e m b L σ)) (k d b : Nat) (L : Nat → Int32) (σ : MS) (h : Kf c σ) : Kk c (s_listed X k d b L σ) := by
  match b with
  | 0 => exact Kk_od (fun _ => Kk_ob (hX _ _ _ _ _ h) (fun _ h142 => Kk_ite (Kk_ob (kk_isSign _ _ _ _ h142) (fun _ h143 => Kk_ite (hX _ _ _ _ _ h143) (Kk_ob (kk_take _ _ _ _ h143) (fun _ h144 => Kk_od (fun _ => Kk_ob (hX _ _ _ _ _ h144) (fun _ h145 => Kk_ob (kk_wrapped _ _ _ _ h145) (fun _ h146 => Kk_so h146))))))) (hX _ _ _ _ _ h142)))
  | 1 => exact hX _ _ _ _ _ h
  | 2 => exact Kk_ite (Kk_ob (kk_isSign _ _ _ _ h) (fun _ h147 => Kk_ite (hX _ _ _ _ _ h147) (Kk_ob (kk_take _ _ _ _ h147) (fun _ h148 => Kk_od (fun _ => Kk_ob (hX _ _ _ _ _ h148) (fun _ h149 => Kk_ite (Kk_ite (Kk_ob (kk_isSign _ _ _ _ h149) (fun _ h150 => Kk_ite (hX _ _ _ _ _ h150) (Kk_ob (kk_take _ _ _ _ h150) (fun _ h151 => Kk_od (fun _ => Kk_ob (hX _ _ _ _ _ h151) (fun _ h152 => Kk_ob (kk_wrapped _ _ _ _ h152) (fun _ h153 => Kk_so h153))))))) (hX _ _ _ _ _ h149)) (hX _ _ _ _ _ h149))))))) (hX _ _ _ _ _ h)
  | 3 => exact Kk_ite (hX _ _ _ _ _ h) (Kk_no)
  | 4 => exact hX _ _ _ _ _ h
  | 5 => exact Kk_ite (hX _ _ _ _ _ h) (hX _ _ _ _ _ h)
  | 6 => exact hX _ _ _ _ _ h
  | 7 => exact Kk_ob (kk_node _ _ _ _ h) (fun _ h154 => Kk_so h154)
  | b + 8 => exact Kk_no
theorem kk_s_name {X : Nat → Nat → Nat → (Nat → Int32) → MS → Option (Int32 × MS)} (hX : ∀ e m b L (σ : MS), Kf c σ → Kk c (X e m b L σ)) (k d b : Nat) (L : Nat → Int32) (σ : MS) (h : Kf c σ) : Kk c (s_name X k d b L σ) := by
  match b with
  | 0 => exact Kk_ob (kk_find _ _ _ _ h) (fun _ h155 => Kk_ob (kk_take _ _ _ _ h155) (fun _ h156 => Kk_ite (Kk_ite (hX _ _ _ _ _ h156) (Kk_ite (hX _ _ _ _ _ h156) (Kk_ite (Kk_ob (kk_isSign _ _ _ _ h156) (fun _ h157 => Kk_ite (hX _ _ _ _ _ h157) (hX _ _ _ _ _ h157))) (hX _ _ _ _ _ h156)))) (hX _ _ _ _ _ h156)))
  | 1 => exact Kk_ob (kk_fault _ _ _ h) (fun _ h158 => hX _ _ _ _ _ h158)
  | 2 => exact Kk_ite (hX _ _ _ _ _ h) (Kk_so h)
  | 3 => exact Kk_ite (Kk_ite (hX _ _ _ _ _ h) (hX _ _ _ _ _ h)) (hX _ _ _ _ _ h)
  | 4 => exact hX _ _ _ _ _ h
  | 5 => exact Kk_ob (kk_node _ _ _ _ h) (fun _ h159 => Kk_so h159)
  | 6 => exact Kk_ob (kk_open _ _ _ _ h) (fun _ h160 => Kk_ite (Kk_ob (kk_take _ _ _ _ h160) (fun _ h161 => hX _ _ _ _ _ h161)) (hX _ _ _ _ _ h160))
  | 7 => exact hX _ _ _ _ _ h
  | 8 => exact Kk_ite (Kk_ite (hX _ _ _ _ _ h) (Kk_ob (kk_isSign _ _ _ _ h) (fun _ h162 => Kk_ite (hX _ _ _ _ _ h162) (hX _ _ _ _ _ h162)))) (hX _ _ _ _ _ h)
  | 9 => exact Kk_ite (hX _ _ _ _ _ h) (Kk_ob (kk_isSign _ _ _ _ h) (fun _ h163 => Kk_ite (hX _ _ _ _ _ h163) (hX _ _ _ _ _ h163)))
  | 10 => exact Kk_ite (hX _ _ _ _ _ h) (Kk_ob (kk_take _ _ _ _ h) (fun _ h164 => hX _ _ _ _ _ h164))
  | 11 => exact Kk_od (fun _ => Kk_ob (hX _ _ _ _ _ h) (fun _ h165 => Kk_ite (hX _ _ _ _ _ h165) (hX _ _ _ _ _ h165)))
  | 12 => exact hX _ _ _ _ _ h
  | 13 => exact Kk_ite (hX _ _ _ _ _ h) (Kk_ite (hX _ _ _ _ _ h) (Kk_no))
  | 14 => exact hX _ _ _ _ _ h
  | 15 => exact Kk_ite (Kk_ob (kk_isSign _ _ _ _ h) (fun _ h166 => Kk_ite (Kk_ob (kk_cannot _ _ _ _ h166) (fun _ h167 => hX _ _ _ _ _ h167)) (hX _ _ _ _ _ h166))) (hX _ _ _ _ _ h)
  | 16 => exact Kk_ite (Kk_ite (Kk_ite (hX _ _ _ _ _ h) (Kk_ob (kk_fault _ _ _ h) (fun _ h168 => hX _ _ _ _ _ h168))) (Kk_no)) (hX _ _ _ _ _ h)
  | 17 => exact Kk_ite (Kk_ob (kk_take _ _ _ _ h) (fun _ h169 => hX _ _ _ _ _ h169)) (hX _ _ _ _ _ h)
  | 18 => exact hX _ _ _ _ _ h
  | 19 => exact Kk_ob (kk_wrapped _ _ _ _ h) (fun _ h170 => Kk_so h170)
  | b + 20 => exact Kk_no
theorem kk_s_negation {X : Nat → Nat → Nat → (Nat → Int32) → MS → Option (Int32 × MS)} (hX : ∀ e m b L (σ : MS), Kf c σ → Kk c (X e m b L σ)) (k d b : Nat) (L : Nat → Int32) (σ : MS) (h : Kf c σ) : Kk c (s_negation X k d b L σ) := by
  match b with
  | 0 => exact Kk_ite (Kk_ob (kk_isWord _ _ _ _ h) (fun _ h171 => Kk_ite (hX _ _ _ _ _ h171) (hX _ _ _ _ _ h171))) (hX _ _ _ _ _ h)
  | 1 => exact Kk_od (fun _ => Kk_ob (hX _ _ _ _ _ h) (fun _ h172 => Kk_so h172))
  | 2 => exact Kk_ob (kk_open _ _ _ _ h) (fun _ h173 => Kk_ite (Kk_ob (kk_take _ _ _ _ h173) (fun _ h174 => hX _ _ _ _ _ h174)) (hX _ _ _ _ _ h173))
  | 3 => exact Kk_od (fun _ => Kk_ob (hX _ _ _ _ _ h) (fun _ h175 => hX _ _ _ _ _ h175))
  | 4 => exact Kk_ob (kk_node _ _ _ _ h) (fun _ h176 => Kk_so h176)
  | b + 5 => exact Kk_no
theorem kk_s_parts {X : Nat → Nat → Nat → (Nat → Int32) → MS → Option (Int32 × MS)} (hX : ∀ e m b L (σ : MS), Kf c σ → Kk c (X e m b L σ)) (k d b : Nat) (L : Nat → Int32) (σ : MS) (h : Kf c σ) : Kk c (s_parts X k d b L σ) := by
  match b with
  | 0 => exact hX _ _ _ _ _ h
  | 1 => exact Kk_ite (Kk_ob (kk_isSign _ _ _ _ h) (fun _ h177 => Kk_ite (Kk_ob (kk_isSign _ _ _ _ h177) (fun _ h178 => Kk_ite (hX _ _ _ _ _ h178) (hX _ _ _ _ _ h178))) (hX _ _ _ _ _ h177))) (hX _ _ _ _ _ h)
  | 2 => exact Kk_ob (kk_isSign _ _ _ _ h) (fun _ h179 => Kk_ob (kk_open _ _ _ _ h179) (fun _ h180 => Kk_ite (Kk_ob (kk_take _ _ _ _ h180) (fun _ h181 => hX _ _ _ _ _ h181)) (hX _ _ _ _ _ h180)))
  | 3 => exact Kk_od (fun _ => Kk_ob (hX _ _ _ _ _ h) (fun _ h182 => Kk_ite (Kk_ite (Kk_ob (kk_isSign _ _ _ _ h182) (fun _ h183 => Kk_ite (hX _ _ _ _ _ h183) (Kk_ob (kk_take _ _ _ _ h183) (fun _ h184 => Kk_od (fun _ => Kk_ob (hX _ _ _ _ _ h184) (fun _ h185 => Kk_ob (kk_over _ _ _ _ h185) (fun _ h186 => Kk_ite (hX _ _ _ _ _ h186) (Kk_no)))))))) (hX _ _ _ _ _ h182)) (hX _ _ _ _ _ h182)))
  | 4 => exact Kk_ite (hX _ _ _ _ _ h) (hX _ _ _ _ _ h)
  | 5 => exact hX _ _ _ _ _ h
  | 6 => exact Kk_ob (kk_over _ _ _ _ h) (fun _ h187 => hX _ _ _ _ _ h187)
  | 7 => exact Kk_ite (hX _ _ _ _ _ h) (hX _ _ _ _ _ h)
  | 8 => exact hX _ _ _ _ _ h
  | 9 => exact Kk_ob (kk_want _ _ _ _ h) (fun _ h188 => hX _ _ _ _ _ h188)
  | 10 => exact Kk_so h
  | b + 11 => exact Kk_no
theorem kk_s_power {X : Nat → Nat → Nat → (Nat → Int32) → MS → Option (Int32 × MS)} (hX : ∀ e m b L (σ : MS), Kf c σ → Kk c (X e m b L σ)) (k d b : Nat) (L : Nat → Int32) (σ : MS) (h : Kf c σ) : Kk c (s_power X k d b L σ) := by
  match b with
  | 0 => exact Kk_od (fun _ => Kk_ob (hX _ _ _ _ _ h) (fun _ h189 => Kk_ite (Kk_ob (kk_isSign _ _ _ _ h189) (fun _ h190 => Kk_ite (hX _ _ _ _ _ h190) (hX _ _ _ _ _ h190))) (hX _ _ _ _ _ h189)))
  | 1 => exact Kk_so h
  | 2 => exact Kk_ob (kk_open _ _ _ _ h) (fun _ h191 => Kk_ite (Kk_ob (kk_take _ _ _ _ h191) (fun _ h192 => hX _ _ _ _ _ h192)) (hX _ _ _ _ _ h191))
  | 3 => exact Kk_od (fun _ => Kk_ob (hX _ _ _ _ _ h) (fun _ h193 => hX _ _ _ _ _ h193))
  | 4 => exact Kk_ob (kk_over _ _ _ _ h) (fun _ h194 => Kk_so h194)
  | b + 5 => exact Kk_no
theorem kk_s_prefix {X : Nat → Nat → Nat → (Nat → Int32) → MS → Option (Int32 × MS)} (hX : ∀ e m b L (σ : MS), Kf c σ → Kk c (X e m b L σ)) (k d b : Nat) (L : Nat → Int32) (σ : MS) (h : Kf c σ) : Kk c (s_prefix X k d b L σ) := by
  match b with
  | 0 => exact Kk_ite (hX _ _ _ _ _ h) (Kk_so h)
  | 1 => exact Kk_ob (kk_isSign _ _ _ _ h) (fun _ h195 => Kk_ite (Kk_ob (kk_isSign _ _ _ _ h195) (fun _ h196 => Kk_ite (hX _ _ _ _ _ h196) (hX _ _ _ _ _ h196))) (hX _ _ _ _ _ h195))
  | 2 => exact Kk_ob (kk_isSign _ _ _ _ h) (fun _ h197 => Kk_ite (hX _ _ _ _ _ h197) (hX _ _ _ _ _ h197))
  | 3 => exact hX _ _ _ _ _ h
  | 4 => exact Kk_ob (kk_open _ _ _ _ h) (fun _ h198 => Kk_ite (Kk_ob (kk_take _ _ _ _ h198) (fun _ h199 => hX _ _ _ _ _ h199)) (hX _ _ _ _ _ h198))
  | 5 => exact Kk_od (fun _ => Kk_ob (hX _ _ _ _ _ h) (fun _ h200 => hX _ _ _ _ _ h200))
  | 6 => exact Kk_ob (kk_node _ _ _ _ h) (fun _ h201 => Kk_so h201)
  | 7 => exact Kk_ob (kk_isSign _ _ _ _ h) (fun _ h202 => Kk_ite (Kk_ob (kk_isSign _ _ _ _ h202) (fun _ h203 => Kk_ite (Kk_ob (kk_isWord _ _ _ _ h203) (fun _ h204 => Kk_ite (Kk_ob (kk_isWord _ _ _ _ h204) (fun _ h205 => Kk_ite (hX _ _ _ _ _ h205) (hX _ _ _ _ _ h205))) (hX _ _ _ _ _ h204))) (hX _ _ _ _ _ h203))) (hX _ _ _ _ _ h202))
  | 8 => exact Kk_ob (kk_operator _ _ _ _ h) (fun _ h206 => Kk_ob (kk_open _ _ _ _ h206) (fun _ h207 => Kk_ite (Kk_ob (kk_take _ _ _ _ h207) (fun _ h208 => hX _ _ _ _ _ h208)) (hX _ _ _ _ _ h207)))
  | 9 => exact Kk_ob (kk_want _ _ _ _ h) (fun _ h209 => Kk_od (fun _ => Kk_ob (hX _ _ _ _ _ h209) (fun _ h210 => hX _ _ _ _ _ h210)))
  | 10 => exact Kk_ob (kk_node _ _ _ _ h) (fun _ h211 => Kk_so h211)
  | 11 => exact Kk_od (fun _ => Kk_ob (hX _ _ _ _ _ h) (fun _ h212 => Kk_od (fun _ => Kk_ob (hX _ _ _ _ _ h212) (fun _ h213 => Kk_so h213))))
  | b + 12 => exact Kk_no
theorem kk_s_primary {X : Nat → Nat → Nat → (Nat → Int32) → MS → Option (Int32 × MS)} (hX : ∀ e m b L (σ : MS), Kf c σ → Kk c (X e m b L σ)) (k d b : Nat) (L : Nat → Int32) (σ : MS) (h : Kf c σ) : Kk c (s_primary X k d b L σ) := by
  match b with
  | 0 => exact Kk_ite (hX _ _ _ _ _ h) (Kk_so h)
  | 1 => exact Kk_ite (hX _ _ _ _ _ h) (Kk_ite (hX _ _ _ _ _ h) (hX _ _ _ _ _ h))
  | 2 => exact Kk_ite (hX _ _ _ _ _ h) (hX _ _ _ _ _ h)
  | 3 => exact hX _ _ _ _ _ h
  | 4 => exact Kk_ite (hX _ _ _ _ _ h) (hX _ _ _ _ _ h)
  | 5 => exact hX _ _ _ _ _ h
  | 6 => exact Kk_ob (kk_keep _ _ _ _ h) (fun _ h214 => Kk_ob (kk_node _ _ _ _ h214) (fun _ h215 => Kk_ob (kk_take _ _ _ _ h215) (fun _ h216 => Kk_so h216)))
  | 7 => exact Kk_ite (Kk_od (fun _ => Kk_ob (hX _ _ _ _ _ h) (fun _ h217 => Kk_so h217))) (hX _ _ _ _ _ h)
  | 8 => exact Kk_ob (kk_isSign _ _ _ _ h) (fun _ h218 => Kk_ite (hX _ _ _ _ _ h218) (Kk_ob (kk_open _ _ _ _ h218) (fun _ h219 => Kk_ite (Kk_ob (kk_take _ _ _ _ h219) (fun _ h220 => hX _ _ _ _ _ h220)) (hX _ _ _ _ _ h219))))
  | 9 => exact Kk_od (fun _ => Kk_ob (hX _ _ _ _ _ h) (fun _ h221 => Kk_ob (kk_want _ _ _ _ h221) (fun _ h222 => hX _ _ _ _ _ h222)))
  | 10 => exact Kk_ob (kk_over _ _ _ _ h) (fun _ h223 => Kk_so h223)
  | 11 => exact Kk_ob (kk_isSign _ _ _ _ h) (fun _ h224 => Kk_ite (Kk_ob (kk_isSign _ _ _ _ h224) (fun _ h225 => Kk_ite (hX _ _ _ _ _ h225) (hX _ _ _ _ _ h225))) (hX _ _ _ _ _ h224))
  | 12 => exact Kk_od (fun _ => Kk_ob (hX _ _ _ _ _ h) (fun _ h226 => Kk_so h226))
  | 13 => exact Kk_ite (Kk_od (fun _ => Kk_ob (hX _ _ _ _ _ h) (fun _ h227 => Kk_so h227))) (hX _ _ _ _ _ h)
  | 14 => exact Kk_ob (kk_cannot _ _ _ _ h) (fun _ h228 => Kk_so h228)
  | b + 15 => exact Kk_no
theorem kk_s_quantified {X : Nat → Nat → Nat → (Nat → Int32) → MS → Option (Int32 × MS)} (hX : ∀ e m b L (σ : MS), Kf c σ → Kk c (X e m b L σ)) (k d b : Nat) (L : Nat → Int32) (σ : MS) (h : Kf c σ) : Kk c (s_quantified X k d b L σ) := by
  match b with
  | 0 => exact Kk_ob (kk_open _ _ _ _ h) (fun _ h229 => Kk_ite (Kk_ob (kk_take _ _ _ _ h229) (fun _ h230 => hX _ _ _ _ _ h230)) (hX _ _ _ _ _ h229))
  | 1 => exact Kk_od (fun _ => Kk_ob (hX _ _ _ _ _ h) (fun _ h231 => Kk_ob (kk_want _ _ _ _ h231) (fun _ h232 => Kk_od (fun _ => Kk_ob (hX _ _ _ _ _ h232) (fun _ h233 => hX _ _ _ _ _ h233)))))
  | 2 => exact hX _ _ _ _ _ h
  | 3 => exact Kk_ob (kk_node _ _ _ _ h) (fun _ h234 => Kk_so h234)
  | b + 4 => exact Kk_no
theorem kk_s_relation {X : Nat → Nat → Nat → (Nat → Int32) → MS → Option (Int32 × MS)} (hX : ∀ e m b L (σ : MS), Kf c σ → Kk c (X e m b L σ)) (k d b : Nat) (L : Nat → Int32) (σ : MS) (h : Kf c σ) : Kk c (s_relation X k d b L σ) := by
  match b with
  | 0 => exact Kk_od (fun _ => Kk_ob (hX _ _ _ _ _ h) (fun _ h235 => Kk_ite (Kk_ob (kk_isRelation _ _ _ _ h235) (fun _ h236 => Kk_ite (hX _ _ _ _ _ h236) (Kk_ob (kk_operator _ _ _ _ h236) (fun _ h237 => Kk_ob (kk_take _ _ _ _ h237) (fun _ h238 => Kk_od (fun _ => Kk_ob (hX _ _ _ _ _ h238) (fun _ h239 => Kk_ob (kk_over _ _ _ _ h239) (fun _ h240 => hX _ _ _ _ _ h240)))))))) (hX _ _ _ _ _ h235)))
  | 1 => exact Kk_so h
  | b + 2 => exact Kk_no
theorem kk_s_sum {X : Nat → Nat → Nat → (Nat → Int32) → MS → Option (Int32 × MS)} (hX : ∀ e m b L (σ : MS), Kf c σ → Kk c (X e m b L σ)) (k d b : Nat) (L : Nat → Int32) (σ : MS) (h : Kf c σ) : Kk c (s_sum X k d b L σ) := by
  match b with
  | 0 => exact Kk_od (fun _ => Kk_ob (hX _ _ _ _ _ h) (fun _ h241 => hX _ _ _ _ _ h241))
  | 1 => exact Kk_ite (Kk_ob (kk_isSign _ _ _ _ h) (fun _ h242 => Kk_ite (Kk_ob (kk_isSign _ _ _ _ h242) (fun _ h243 => Kk_ite (hX _ _ _ _ _ h243) (hX _ _ _ _ _ h243))) (hX _ _ _ _ _ h242))) (hX _ _ _ _ _ h)
  | 2 => exact Kk_ob (kk_operator _ _ _ _ h) (fun _ h244 => Kk_ob (kk_take _ _ _ _ h244) (fun _ h245 => Kk_od (fun _ => Kk_ob (hX _ _ _ _ _ h245) (fun _ h246 => Kk_ob (kk_over _ _ _ _ h246) (fun _ h247 => hX _ _ _ _ _ h247)))))
  | 3 => exact Kk_so h
  | b + 4 => exact Kk_no
theorem kk_s_term {X : Nat → Nat → Nat → (Nat → Int32) → MS → Option (Int32 × MS)} (hX : ∀ e m b L (σ : MS), Kf c σ → Kk c (X e m b L σ)) (k d b : Nat) (L : Nat → Int32) (σ : MS) (h : Kf c σ) : Kk c (s_term X k d b L σ) := by
  match b with
  | 0 => exact Kk_od (fun _ => Kk_ob (hX _ _ _ _ _ h) (fun _ h248 => hX _ _ _ _ _ h248))
  | 1 => exact Kk_ite (Kk_ob (kk_isSign _ _ _ _ h) (fun _ h249 => Kk_ite (Kk_ob (kk_isWord _ _ _ _ h249) (fun _ h250 => Kk_ite (Kk_ob (kk_isWord _ _ _ _ h250) (fun _ h251 => Kk_ite (hX _ _ _ _ _ h251) (hX _ _ _ _ _ h251))) (hX _ _ _ _ _ h250))) (hX _ _ _ _ _ h249))) (hX _ _ _ _ _ h)
  | 2 => exact Kk_ob (kk_operator _ _ _ _ h) (fun _ h252 => Kk_ob (kk_take _ _ _ _ h252) (fun _ h253 => Kk_od (fun _ => Kk_ob (hX _ _ _ _ _ h253) (fun _ h254 => Kk_ob (kk_over _ _ _ _ h254) (fun _ h255 => hX _ _ _ _ _ h255)))))
  | 3 => exact Kk_so h
  | b + 4 => exact Kk_no
theorem kk_s_wordly {X : Nat → Nat → Nat → (Nat → Int32) → MS → Option (Int32 × MS)} (hX : ∀ e m b L (σ : MS), Kf c σ → Kk c (X e m b L σ)) (k d b : Nat) (L : Nat → Int32) (σ : MS) (h : Kf c σ) : Kk c (s_wordly X k d b L σ) := by
  match b with
  | 0 => exact Kk_ite (hX _ _ _ _ _ h) (Kk_ite (hX _ _ _ _ _ h) (Kk_ite (hX _ _ _ _ _ h) (Kk_ite (hX _ _ _ _ _ h) (Kk_ite (hX _ _ _ _ _ h) (Kk_ite (hX _ _ _ _ _ h) (hX _ _ _ _ _ h))))))
  | 1 => exact Kk_ob (kk_named _ _ _ _ h) (fun _ h256 => Kk_so h256)
  | 2 => exact Kk_ob (kk_named _ _ _ _ h) (fun _ h257 => Kk_so h257)
  | 3 => exact Kk_ob (kk_named _ _ _ _ h) (fun _ h258 => Kk_so h258)
  | 4 => exact Kk_ite (hX _ _ _ _ _ h) (hX _ _ _ _ _ h)
  | 5 => exact hX _ _ _ _ _ h
  | 6 => exact Kk_od (fun _ => Kk_ob (hX _ _ _ _ _ h) (fun _ h259 => Kk_so h259))
  | 7 => exact Kk_od (fun _ => Kk_ob (hX _ _ _ _ _ h) (fun _ h260 => Kk_so h260))
  | 8 => exact Kk_ite (Kk_ite (hX _ _ _ _ _ h) (Kk_ob (kk_named _ _ _ _ h) (fun _ h261 => Kk_so h261))) (hX _ _ _ _ _ h)
  | 9 => exact Kk_ite (hX _ _ _ _ _ h) (Kk_ite (hX _ _ _ _ _ h) (hX _ _ _ _ _ h))
  | 10 => exact Kk_ite (hX _ _ _ _ _ h) (Kk_ite (Kk_ite (hX _ _ _ _ _ h) (hX _ _ _ _ _ h)) (hX _ _ _ _ _ h))
  | 11 => exact hX _ _ _ _ _ h
  | 12 => exact hX _ _ _ _ _ h
  | 13 => exact Kk_ite (Kk_ob (kk_cannot _ _ _ _ h) (fun _ h262 => Kk_so h262)) (hX _ _ _ _ _ h)
  | 14 => exact Kk_ob (kk_take _ _ _ _ h) (fun _ h263 => Kk_ite (Kk_ob (kk_isSign _ _ _ _ h263) (fun _ h264 => Kk_ite (Kk_ob (kk_cannot _ _ _ _ h264) (fun _ h265 => hX _ _ _ _ _ h265)) (hX _ _ _ _ _ h264))) (hX _ _ _ _ _ h263))
  | 15 => exact Kk_ite (Kk_ob (kk_open _ _ _ _ h) (fun _ h266 => hX _ _ _ _ _ h266)) (hX _ _ _ _ _ h)
  | 16 => exact Kk_ite (Kk_ob (kk_take _ _ _ _ h) (fun _ h267 => hX _ _ _ _ _ h267)) (hX _ _ _ _ _ h)
  | 17 => exact Kk_od (fun _ => Kk_ob (hX _ _ _ _ _ h) (fun _ h268 => Kk_ob (kk_want _ _ _ _ h268) (fun _ h269 => hX _ _ _ _ _ h269)))
  | 18 => exact Kk_ob (kk_node _ _ _ _ h) (fun _ h270 => Kk_so h270)
  | b + 19 => exact Kk_no
theorem kk_GE : ∀ (k d m b : Nat) (L : Nat → Int32) (σ : MS), Kf c σ → Kk c (x_GE k d m b L σ) := by
  intro k
  induction k with
  | zero => intro d m b L σ _; exact Kk_no
  | succ k ih =>
    intro d m b L σ h
    match m with
    | 0 => exact kk_s_brackets ih k d b L σ h
    | 1 => exact kk_s_choice ih k d b L σ h
    | 2 => exact kk_s_conjunction ih k d b L σ h
    | 3 => exact kk_s_exp ih k d b L σ h
    | 4 => exact kk_s_iters ih k d b L σ h
    | 5 => exact kk_s_listed ih k d b L σ h
    | 6 => exact kk_s_name ih k d b L σ h
    | 7 => exact kk_s_negation ih k d b L σ h
    | 8 => exact kk_s_parts ih k d b L σ h
    | 9 => exact kk_s_power ih k d b L σ h
    | 10 => exact kk_s_prefix ih k d b L σ h
    | 11 => exact kk_s_primary ih k d b L σ h
    | 12 => exact kk_s_quantified ih k d b L σ h
    | 13 => exact kk_s_relation ih k d b L σ h
    | 14 => exact kk_s_sum ih k d b L σ h
    | 15 => exact kk_s_term ih k d b L σ h
    | 16 => exact kk_s_wordly ih k d b L σ h
    | m + 17 => exact Kk_no
theorem kk_iters (k b : Nat) (L : Nat → Int32) (σ : MS) (h : Kf c σ) : Kk c (x_iters k b L σ) := kk_GE k 320 4 b L σ h
theorem kk_exp (k b : Nat) (L : Nat → Int32) (σ : MS) (h : Kf c σ) : Kk c (x_exp k b L σ) := kk_GE k 320 3 b L σ h
theorem kk_isStatement : ∀ (k b : Nat) (L : Nat → Int32) (σ : MS), Kf c σ → Kk c (x_isStatement k b L σ) := by
  intro k
  induction k with
  | zero => intro b L σ _; exact Kk_no
  | succ k ih =>
    intro b L σ h
    match b with
    | 0 =>
      refine Kk_eq (by rw [x_isStatement]) ?_
      exact Kk_ite (ih _ _ _ h) (Kk_ob (kk_isSign _ _ _ _ h) (fun _ h271 => Kk_ite (Kk_ite (Kk_ite (ih _ _ _ h271) (Kk_ite (ih _ _ _ h271) (Kk_ite (ih _ _ _ h271) (Kk_ite (ih _ _ _ h271) (Kk_ite (ih _ _ _ h271) (ih _ _ _ h271)))))) (ih _ _ _ h271)) (ih _ _ _ h271)))
    | 1 =>
      refine Kk_eq (by rw [x_isStatement]) ?_
      exact ih _ _ _ h
    | 2 =>
      refine Kk_eq (by rw [x_isStatement]) ?_
      exact ih _ _ _ h
    | 3 =>
      refine Kk_eq (by rw [x_isStatement]) ?_
      exact Kk_ite (Kk_so h) (Kk_no)
    | b + 4 =>
      refine Kk_eq (by rw [x_isStatement]) Kk_no
theorem kk_isTarget : ∀ (k b : Nat) (L : Nat → Int32) (σ : MS), Kf c σ → Kk c (x_isTarget k b L σ) := by
  intro k
  induction k with
  | zero => intro b L σ _; exact Kk_no
  | succ k ih =>
    intro b L σ h
    match b with
    | 0 =>
      refine Kk_eq (by rw [x_isTarget]) ?_
      exact ih _ _ _ h
    | 1 =>
      refine Kk_eq (by rw [x_isTarget]) ?_
      exact Kk_ite (Kk_ite (ih _ _ _ h) (Kk_ite (Kk_ite (ih _ _ _ h) (Kk_ite (Kk_ite (ih _ _ _ h) (ih _ _ _ h)) (Kk_no))) (Kk_no))) (Kk_no)
    | 2 =>
      refine Kk_eq (by rw [x_isTarget]) ?_
      exact Kk_ite (ih _ _ _ h) (Kk_no)
    | 3 =>
      refine Kk_eq (by rw [x_isTarget]) ?_
      exact Kk_ite (Kk_ite (ih _ _ _ h) (ih _ _ _ h)) (Kk_no)
    | 4 =>
      refine Kk_eq (by rw [x_isTarget]) ?_
      exact ih _ _ _ h
    | 5 =>
      refine Kk_eq (by rw [x_isTarget]) ?_
      exact Kk_ite (Kk_so h) (Kk_no)
    | b + 6 =>
      refine Kk_eq (by rw [x_isTarget]) Kk_no
theorem kk_call : ∀ (k b : Nat) (L : Nat → Int32) (σ : MS), Kf c σ → Kk c (x_call k b L σ) := by
  intro k
  induction k with
  | zero => intro b L σ _; exact Kk_no
  | succ k ih =>
    intro b L σ h
    match b with
    | 0 =>
      refine Kk_eq (by rw [x_call]) ?_
      exact Kk_ob (kk_take _ _ _ _ h) (fun _ h272 => Kk_ite (Kk_ob (kk_isSign _ _ _ _ h272) (fun _ h273 => Kk_ite (Kk_ob (kk_fault _ _ _ h273) (fun _ h274 => ih _ _ _ h274)) (ih _ _ _ h273))) (ih _ _ _ h272))
    | 1 =>
      refine Kk_eq (by rw [x_call]) ?_
      exact Kk_ite (Kk_ob (kk_open _ _ _ _ h) (fun _ h275 => ih _ _ _ h275)) (ih _ _ _ h)
    | 2 =>
      refine Kk_eq (by rw [x_call]) ?_
      exact Kk_ite (Kk_ob (kk_take _ _ _ _ h) (fun _ h276 => ih _ _ _ h276)) (ih _ _ _ h)
    | 3 =>
      refine Kk_eq (by rw [x_call]) ?_
      exact ih _ _ _ h
    | 4 =>
      refine Kk_eq (by rw [x_call]) ?_
      exact Kk_ite (Kk_ite (ih _ _ _ h) (Kk_ob (kk_isSign _ _ _ _ h) (fun _ h277 => Kk_ite (ih _ _ _ h277) (ih _ _ _ h277)))) (ih _ _ _ h)
    | 5 =>
      refine Kk_eq (by rw [x_call]) ?_
      exact Kk_ite (ih _ _ _ h) (Kk_ob (kk_isSign _ _ _ _ h) (fun _ h278 => Kk_ite (ih _ _ _ h278) (ih _ _ _ h278)))
    | 6 =>
      refine Kk_eq (by rw [x_call]) ?_
      exact Kk_ite (ih _ _ _ h) (Kk_ob (kk_take _ _ _ _ h) (fun _ h279 => ih _ _ _ h279))
    | 7 =>
      refine Kk_eq (by rw [x_call]) ?_
      exact Kk_ob (kk_exp _ _ _ _ h) (fun _ h280 => Kk_ite (Kk_ite (Kk_ite (ih _ _ _ h280) (Kk_ite (Kk_ite (ih _ _ _ h280) (Kk_ob (kk_isTarget _ _ _ _ h280) (fun _ h281 => Kk_ite (Kk_ob (kk_fault _ _ _ h281) (fun _ h282 => ih _ _ _ h282)) (ih _ _ _ h281)))) (Kk_no))) (Kk_no)) (ih _ _ _ h280))
    | 8 =>
      refine Kk_eq (by rw [x_call]) ?_
      exact Kk_ite (ih _ _ _ h) (ih _ _ _ h)
    | 9 =>
      refine Kk_eq (by rw [x_call]) ?_
      exact ih _ _ _ h
    | 10 =>
      refine Kk_eq (by rw [x_call]) ?_
      exact Kk_ite (ih _ _ _ h) (Kk_ite (ih _ _ _ h) (Kk_no))
    | 11 =>
      refine Kk_eq (by rw [x_call]) ?_
      exact ih _ _ _ h
    | 12 =>
      refine Kk_eq (by rw [x_call]) ?_
      exact Kk_ite (Kk_ob (kk_isSign _ _ _ _ h) (fun _ h283 => Kk_ite (Kk_ob (kk_cannot _ _ _ _ h283) (fun _ h284 => ih _ _ _ h284)) (ih _ _ _ h283))) (ih _ _ _ h)
    | 13 =>
      refine Kk_eq (by rw [x_call]) ?_
      exact Kk_ite (Kk_ite (Kk_ite (ih _ _ _ h) (Kk_ob (kk_fault _ _ _ h) (fun _ h285 => ih _ _ _ h285))) (Kk_no)) (ih _ _ _ h)
    | 14 =>
      refine Kk_eq (by rw [x_call]) ?_
      exact Kk_ite (Kk_ob (kk_take _ _ _ _ h) (fun _ h286 => ih _ _ _ h286)) (ih _ _ _ h)
    | 15 =>
      refine Kk_eq (by rw [x_call]) ?_
      exact ih _ _ _ h
    | 16 =>
      refine Kk_eq (by rw [x_call]) ?_
      exact Kk_ob (kk_want _ _ _ _ h) (fun _ h287 => Kk_ob (kk_node _ _ _ _ h287) (fun _ h288 => Kk_so h288))
    | b + 17 =>
      refine Kk_eq (by rw [x_call]) Kk_no
theorem kk_parts (k b : Nat) (L : Nat → Int32) (σ : MS) (h : Kf c σ) : Kk c (x_parts k b L σ) := kk_GE k 320 8 b L σ h
theorem kk_target : ∀ (k b : Nat) (L : Nat → Int32) (σ : MS), Kf c σ → Kk c (x_target k b L σ) := by
  intro k
  induction k with
  | zero => intro b L σ _; exact Kk_no
  | succ k ih =>
    intro b L σ h
    match b with
    | 0 =>
      refine Kk_eq (by rw [x_target]) ?_
      exact Kk_ob (kk_wantName _ _ _ _ h) (fun _ h289 => Kk_ite (ih _ _ _ h289) (Kk_so h289))
    | 1 =>
      refine Kk_eq (by rw [x_target]) ?_
      exact Kk_ob (kk_find _ _ _ _ h) (fun _ h290 => Kk_ob (kk_take _ _ _ _ h290) (fun _ h291 => Kk_ite (Kk_ite (ih _ _ _ h291) (Kk_ob (kk_fault _ _ _ h291) (fun _ h292 => ih _ _ _ h292))) (ih _ _ _ h291)))
    | 2 =>
      refine Kk_eq (by rw [x_target]) ?_
      exact Kk_ite (ih _ _ _ h) (ih _ _ _ h)
    | 3 =>
      refine Kk_eq (by rw [x_target]) ?_
      exact Kk_ite (ih _ _ _ h) (ih _ _ _ h)
    | 4 =>
      refine Kk_eq (by rw [x_target]) ?_
      exact ih _ _ _ h
    | 5 =>
      refine Kk_eq (by rw [x_target]) ?_
      exact Kk_ob (kk_node _ _ _ _ h) (fun _ h293 => Kk_ob (kk_parts _ _ _ _ h293) (fun _ h294 => ih _ _ _ h294))
    | 6 =>
      refine Kk_eq (by rw [x_target]) ?_
      exact Kk_so h
    | b + 7 =>
      refine Kk_eq (by rw [x_target]) Kk_no
theorem kk_begun : ∀ (k b : Nat) (L : Nat → Int32) (σ : MS), Kf c σ → Kk c (x_begun k b L σ) := by
  intro k
  induction k with
  | zero => intro b L σ _; exact Kk_no
  | succ k ih =>
    intro b L σ h
    match b with
    | 0 =>
      refine Kk_eq (by rw [x_begun]) ?_
      exact Kk_ob (kk_find _ _ _ _ h) (fun _ h295 => Kk_ite (Kk_ob (kk_call _ _ _ _ h295) (fun _ h296 => Kk_so h296)) (ih _ _ _ h295))
    | 1 =>
      refine Kk_eq (by rw [x_begun]) ?_
      exact Kk_ob (kk_target _ _ _ _ h) (fun _ h297 => Kk_ite (ih _ _ _ h297) (Kk_so h297))
    | 2 =>
      refine Kk_eq (by rw [x_begun]) ?_
      exact Kk_ob (kk_isSign _ _ _ _ h) (fun _ h298 => Kk_ite (Kk_ob (kk_isSign _ _ _ _ h298) (fun _ h299 => Kk_ite (Kk_ob (kk_isSign _ _ _ _ h299) (fun _ h300 => Kk_ite (ih _ _ _ h300) (ih _ _ _ h300))) (ih _ _ _ h299))) (ih _ _ _ h298))
    | 3 =>
      refine Kk_eq (by rw [x_begun]) ?_
      exact Kk_ob (kk_operator _ _ _ _ h) (fun _ h301 => Kk_ob (kk_take _ _ _ _ h301) (fun _ h302 => Kk_ob (kk_want _ _ _ _ h302) (fun _ h303 => Kk_ob (kk_exp _ _ _ _ h303) (fun _ h304 => Kk_ob (kk_want _ _ _ _ h304) (fun _ h305 => Kk_ob (kk_node _ _ _ _ h305) (fun _ h306 => Kk_so h306))))))
    | 4 =>
      refine Kk_eq (by rw [x_begun]) ?_
      exact Kk_ob (kk_isWord _ _ _ _ h) (fun _ h307 => Kk_ite (Kk_ob (kk_isWord _ _ _ _ h307) (fun _ h308 => Kk_ite (Kk_ob (kk_isWord _ _ _ _ h308) (fun _ h309 => Kk_ite (ih _ _ _ h309) (ih _ _ _ h309))) (ih _ _ _ h308))) (ih _ _ _ h307))
    | 5 =>
      refine Kk_eq (by rw [x_begun]) ?_
      exact Kk_ob (kk_take _ _ _ _ h) (fun _ h310 => Kk_ob (kk_target _ _ _ _ h310) (fun _ h311 => Kk_ob (kk_want _ _ _ _ h311) (fun _ h312 => Kk_ob (kk_node _ _ _ _ h312) (fun _ h313 => Kk_so h313))))
    | 6 =>
      refine Kk_eq (by rw [x_begun]) ?_
      exact Kk_ob (kk_want _ _ _ _ h) (fun _ h314 => Kk_ite (ih _ _ _ h314) (Kk_so h314))
    | 7 =>
      refine Kk_eq (by rw [x_begun]) ?_
      exact Kk_ob (kk_isWord _ _ _ _ h) (fun _ h315 => Kk_ite (ih _ _ _ h315) (Kk_ite (Kk_ite (ih _ _ _ h315) (Kk_ob (kk_cannot _ _ _ _ h315) (fun _ h316 => Kk_so h316))) (Kk_no)))
    | 8 =>
      refine Kk_eq (by rw [x_begun]) ?_
      exact Kk_ob (kk_take _ _ _ _ h) (fun _ h317 => Kk_ob (kk_want _ _ _ _ h317) (fun _ h318 => Kk_ob (kk_node _ _ _ _ h318) (fun _ h319 => Kk_so h319)))
    | 9 =>
      refine Kk_eq (by rw [x_begun]) ?_
      exact Kk_ite (Kk_ob (kk_find _ _ _ _ h) (fun _ h320 => Kk_ite (Kk_ob (kk_call _ _ _ _ h320) (fun _ h321 => Kk_so h321)) (ih _ _ _ h320))) (ih _ _ _ h)
    | 10 =>
      refine Kk_eq (by rw [x_begun]) ?_
      exact Kk_ob (kk_exp _ _ _ _ h) (fun _ h322 => Kk_ob (kk_want _ _ _ _ h322) (fun _ h323 => Kk_ob (kk_node _ _ _ _ h323) (fun _ h324 => Kk_so h324)))
    | b + 11 =>
      refine Kk_eq (by rw [x_begun]) Kk_no
theorem kk_partsOf : ∀ (k b : Nat) (L : Nat → Int32) (σ : MS), Kf c σ → Kk c (x_partsOf k b L σ) := by
  intro k
  induction k with
  | zero => intro b L σ _; exact Kk_no
  | succ k ih =>
    intro b L σ h
    match b with
    | 0 =>
      refine Kk_eq (by rw [x_partsOf]) ?_
      exact Kk_ob (kk_open _ _ _ _ h) (fun _ h325 => Kk_ite (Kk_ob (kk_take _ _ _ _ h325) (fun _ h326 => ih _ _ _ h326)) (ih _ _ _ h325))
    | 1 =>
      refine Kk_eq (by rw [x_partsOf]) ?_
      exact ih _ _ _ h
    | 2 =>
      refine Kk_eq (by rw [x_partsOf]) ?_
      exact Kk_ite (ih _ _ _ h) (Kk_ite (Kk_ob (kk_isSign _ _ _ _ h) (fun _ h327 => Kk_ite (ih _ _ _ h327) (Kk_ob (kk_node _ _ _ _ h327) (fun _ h328 => Kk_ob (kk_take _ _ _ _ h328) (fun _ h329 => ih _ _ _ h329))))) (ih _ _ _ h))
    | 3 =>
      refine Kk_eq (by rw [x_partsOf]) ?_
      exact Kk_ob (kk_target _ _ _ _ h) (fun _ h330 => ih _ _ _ h330)
    | 4 =>
      refine Kk_eq (by rw [x_partsOf]) ?_
      exact Kk_ite (ih _ _ _ h) (ih _ _ _ h)
    | 5 =>
      refine Kk_eq (by rw [x_partsOf]) ?_
      exact Kk_ite (ih _ _ _ h) (Kk_no)
    | 6 =>
      refine Kk_eq (by rw [x_partsOf]) ?_
      exact Kk_ite (Kk_ob (kk_isSign _ _ _ _ h) (fun _ h331 => Kk_ite (ih _ _ _ h331) (ih _ _ _ h331))) (ih _ _ _ h)
    | 7 =>
      refine Kk_eq (by rw [x_partsOf]) ?_
      exact ih _ _ _ h
    | 8 =>
      refine Kk_eq (by rw [x_partsOf]) ?_
      exact Kk_ite (ih _ _ _ h) (Kk_ob (kk_take _ _ _ _ h) (fun _ h332 => ih _ _ _ h332))
    | 9 =>
      refine Kk_eq (by rw [x_partsOf]) ?_
      exact ih _ _ _ h
    | 10 =>
      refine Kk_eq (by rw [x_partsOf]) ?_
      exact Kk_ob (kk_want _ _ _ _ h) (fun _ h333 => ih _ _ _ h333)
    | 11 =>
      refine Kk_eq (by rw [x_partsOf]) ?_
      exact Kk_ob (kk_want _ _ _ _ h) (fun _ h334 => Kk_ob (kk_exp _ _ _ _ h334) (fun _ h335 => Kk_ob (kk_want _ _ _ _ h335) (fun _ h336 => Kk_ob (kk_node _ _ _ _ h336) (fun _ h337 => Kk_so h337))))
    | b + 12 =>
      refine Kk_eq (by rw [x_partsOf]) Kk_no
theorem kk_simple : ∀ (k b : Nat) (L : Nat → Int32) (σ : MS), Kf c σ → Kk c (x_simple k b L σ) := by
  intro k
  induction k with
  | zero => intro b L σ _; exact Kk_no
  | succ k ih =>
    intro b L σ h
    match b with
    | 0 =>
      refine Kk_eq (by rw [x_simple]) ?_
      exact Kk_ite (ih _ _ _ h) (Kk_ite (ih _ _ _ h) (ih _ _ _ h))
    | 1 =>
      refine Kk_eq (by rw [x_simple]) ?_
      exact Kk_ite (ih _ _ _ h) (ih _ _ _ h)
    | 2 =>
      refine Kk_eq (by rw [x_simple]) ?_
      exact Kk_ite (Kk_ite (ih _ _ _ h) (Kk_ite (ih _ _ _ h) (ih _ _ _ h))) (ih _ _ _ h)
    | 3 =>
      refine Kk_eq (by rw [x_simple]) ?_
      exact Kk_ob (kk_fault _ _ _ h) (fun _ h338 => Kk_so h338)
    | 4 =>
      refine Kk_eq (by rw [x_simple]) ?_
      exact Kk_ob (kk_take _ _ _ _ h) (fun _ h339 => Kk_ite (ih _ _ _ h339) (Kk_ite (ih _ _ _ h339) (ih _ _ _ h339)))
    | 5 =>
      refine Kk_eq (by rw [x_simple]) ?_
      exact Kk_ite (ih _ _ _ h) (ih _ _ _ h)
    | 6 =>
      refine Kk_eq (by rw [x_simple]) ?_
      exact ih _ _ _ h
    | 7 =>
      refine Kk_eq (by rw [x_simple]) ?_
      exact Kk_ob (kk_node _ _ _ _ h) (fun _ h340 => ih _ _ _ h340)
    | 8 =>
      refine Kk_eq (by rw [x_simple]) ?_
      exact Kk_ite (Kk_ite (Kk_ob (kk_isSign _ _ _ _ h) (fun _ h341 => Kk_ite (ih _ _ _ h341) (ih _ _ _ h341))) (ih _ _ _ h)) (ih _ _ _ h)
    | 9 =>
      refine Kk_eq (by rw [x_simple]) ?_
      exact ih _ _ _ h
    | 10 =>
      refine Kk_eq (by rw [x_simple]) ?_
      exact Kk_ob (kk_exp _ _ _ _ h) (fun _ h342 => ih _ _ _ h342)
    | 11 =>
      refine Kk_eq (by rw [x_simple]) ?_
      exact Kk_ob (kk_node _ _ _ _ h) (fun _ h343 => ih _ _ _ h343)
    | 12 =>
      refine Kk_eq (by rw [x_simple]) ?_
      exact Kk_ite (Kk_ite (Kk_ob (kk_isSign _ _ _ _ h) (fun _ h344 => Kk_ite (Kk_ob (kk_cannot _ _ _ _ h344) (fun _ h345 => ih _ _ _ h345)) (ih _ _ _ h344))) (ih _ _ _ h)) (ih _ _ _ h)
    | 13 =>
      refine Kk_eq (by rw [x_simple]) ?_
      exact Kk_ite (Kk_ob (kk_open _ _ _ _ h) (fun _ h346 => ih _ _ _ h346)) (ih _ _ _ h)
    | 14 =>
      refine Kk_eq (by rw [x_simple]) ?_
      exact Kk_ite (Kk_ob (kk_take _ _ _ _ h) (fun _ h347 => ih _ _ _ h347)) (ih _ _ _ h)
    | 15 =>
      refine Kk_eq (by rw [x_simple]) ?_
      exact Kk_ob (kk_exp _ _ _ _ h) (fun _ h348 => ih _ _ _ h348)
    | 16 =>
      refine Kk_eq (by rw [x_simple]) ?_
      exact Kk_ite (Kk_ob (kk_isSign _ _ _ _ h) (fun _ h349 => Kk_ite (ih _ _ _ h349) (Kk_ob (kk_take _ _ _ _ h349) (fun _ h350 => Kk_ob (kk_exp _ _ _ _ h350) (fun _ h351 => Kk_ite (ih _ _ _ h351) (Kk_no)))))) (ih _ _ _ h)
    | 17 =>
      refine Kk_eq (by rw [x_simple]) ?_
      exact ih _ _ _ h
    | 18 =>
      refine Kk_eq (by rw [x_simple]) ?_
      exact Kk_ob (kk_want _ _ _ _ h) (fun _ h352 => ih _ _ _ h352)
    | 19 =>
      refine Kk_eq (by rw [x_simple]) ?_
      exact Kk_ob (kk_node _ _ _ _ h) (fun _ h353 => ih _ _ _ h353)
    | 20 =>
      refine Kk_eq (by rw [x_simple]) ?_
      exact Kk_ite (Kk_ob (kk_exp _ _ _ _ h) (fun _ h354 => Kk_ob (kk_node _ _ _ _ h354) (fun _ h355 => ih _ _ _ h355))) (ih _ _ _ h)
    | 21 =>
      refine Kk_eq (by rw [x_simple]) ?_
      exact Kk_ite (ih _ _ _ h) (ih _ _ _ h)
    | 22 =>
      refine Kk_eq (by rw [x_simple]) ?_
      exact Kk_ite (ih _ _ _ h) (ih _ _ _ h)
    | 23 =>
      refine Kk_eq (by rw [x_simple]) ?_
      exact ih _ _ _ h
    | 24 =>
      refine Kk_eq (by rw [x_simple]) ?_
      exact Kk_ob (kk_node _ _ _ _ h) (fun _ h356 => ih _ _ _ h356)
    | 25 =>
      refine Kk_eq (by rw [x_simple]) ?_
      exact Kk_ob (kk_want _ _ _ _ h) (fun _ h357 => Kk_so h357)
    | b + 26 =>
      refine Kk_eq (by rw [x_simple]) Kk_no
theorem kk_s_block {X : Nat → Nat → Nat → (Nat → Int32) → MS → Option (Int32 × MS)} (hX : ∀ e m b L (σ : MS), Kf c σ → Kk c (X e m b L σ)) (k d b : Nat) (L : Nat → Int32) (σ : MS) (h : Kf c σ) : Kk c (s_block X k d b L σ) := by
  match b with
  | 0 => exact hX _ _ _ _ _ h
  | 1 => exact Kk_ite (Kk_ob (kk_isBlockEnd _ _ _ _ h) (fun _ h358 => Kk_ite (Kk_od (fun _ => Kk_ob (hX _ _ _ _ _ h358) (fun _ h359 => Kk_ite (hX _ _ _ _ _ h359) (Kk_so h359)))) (hX _ _ _ _ _ h358))) (hX _ _ _ _ _ h)
  | 2 => exact Kk_ite (Kk_ite (hX _ _ _ _ _ h) (Kk_no)) (Kk_no)
  | 3 => exact Kk_ite (hX _ _ _ _ _ h) (hX _ _ _ _ _ h)
  | 4 => exact Kk_ite (hX _ _ _ _ _ h) (Kk_no)
  | 5 => exact hX _ _ _ _ _ h
  | 6 => exact Kk_so h
  | b + 7 => exact Kk_no
theorem kk_s_fors {X : Nat → Nat → Nat → (Nat → Int32) → MS → Option (Int32 × MS)} (hX : ∀ e m b L (σ : MS), Kf c σ → Kk c (X e m b L σ)) (k d b : Nat) (L : Nat → Int32) (σ : MS) (h : Kf c σ) : Kk c (s_fors X k d b L σ) := by
  match b with
  | 0 => exact Kk_ob (kk_node _ _ _ _ h) (fun _ h360 => hX _ _ _ _ _ h360)
  | 1 => exact Kk_ob (kk_take _ _ _ _ h) (fun _ h361 => Kk_ob (kk_iters _ _ _ _ h361) (fun _ h362 => Kk_ite (hX _ _ _ _ _ h362) (Kk_no)))
  | 2 => exact Kk_ite (Kk_ob (kk_isSign _ _ _ _ h) (fun _ h363 => Kk_ite (hX _ _ _ _ _ h363) (Kk_ob (kk_take _ _ _ _ h363) (fun _ h364 => Kk_ob (kk_exp _ _ _ _ h364) (fun _ h365 => Kk_ite (hX _ _ _ _ _ h365) (Kk_no)))))) (hX _ _ _ _ _ h)
  | 3 => exact Kk_ob (kk_wantWord _ _ _ _ h) (fun _ h366 => hX _ _ _ _ _ h366)
  | 4 => exact Kk_od (fun _ => Kk_ob (hX _ _ _ _ _ h) (fun _ h367 => Kk_ite (hX _ _ _ _ _ h367) (Kk_no)))
  | 5 => exact hX _ _ _ _ _ h
  | 6 => exact Kk_ob (kk_wantWord _ _ _ _ h) (fun _ h368 => Kk_ob (kk_want _ _ _ _ h368) (fun _ h369 => hX _ _ _ _ _ h369))
  | 7 => exact hX _ _ _ _ _ h
  | 8 => exact Kk_so h
  | b + 9 => exact Kk_no
theorem kk_s_ifs {X : Nat → Nat → Nat → (Nat → Int32) → MS → Option (Int32 × MS)} (hX : ∀ e m b L (σ : MS), Kf c σ → Kk c (X e m b L σ)) (k d b : Nat) (L : Nat → Int32) (σ : MS) (h : Kf c σ) : Kk c (s_ifs X k d b L σ) := by
  match b with
  | 0 => exact Kk_ob (kk_node _ _ _ _ h) (fun _ h370 => hX _ _ _ _ _ h370)
  | 1 => exact Kk_ob (kk_take _ _ _ _ h) (fun _ h371 => hX _ _ _ _ _ h371)
  | 2 => exact Kk_ite (hX _ _ _ _ _ h) (Kk_ite (Kk_ite (hX _ _ _ _ _ h) (Kk_ob (kk_isWord _ _ _ _ h) (fun _ h372 => Kk_ite (hX _ _ _ _ _ h372) (Kk_ob (kk_take _ _ _ _ h372) (fun _ h373 => hX _ _ _ _ _ h373))))) (hX _ _ _ _ _ h))
  | 3 => exact Kk_ob (kk_exp _ _ _ _ h) (fun _ h374 => hX _ _ _ _ _ h374)
  | 4 => exact Kk_ob (kk_wantWord _ _ _ _ h) (fun _ h375 => Kk_od (fun _ => Kk_ob (hX _ _ _ _ _ h375) (fun _ h376 => Kk_ob (kk_node _ _ _ _ h376) (fun _ h377 => Kk_ite (hX _ _ _ _ _ h377) (Kk_ite (hX _ _ _ _ _ h377) (Kk_no))))))
  | 5 => exact Kk_ite (hX _ _ _ _ _ h) (Kk_no)
  | 6 => exact Kk_ite (Kk_ob (kk_isWord _ _ _ _ h) (fun _ h378 => Kk_ite (hX _ _ _ _ _ h378) (hX _ _ _ _ _ h378))) (hX _ _ _ _ _ h)
  | 7 => exact hX _ _ _ _ _ h
  | 8 => exact Kk_ite (hX _ _ _ _ _ h) (Kk_ob (kk_take _ _ _ _ h) (fun _ h379 => hX _ _ _ _ _ h379))
  | 9 => exact hX _ _ _ _ _ h
  | 10 => exact Kk_ite (Kk_ob (kk_isWord _ _ _ _ h) (fun _ h380 => Kk_ite (hX _ _ _ _ _ h380) (Kk_ob (kk_take _ _ _ _ h380) (fun _ h381 => Kk_od (fun _ => Kk_ob (hX _ _ _ _ _ h381) (fun _ h382 => Kk_ob (kk_node _ _ _ _ h382) (fun _ h383 => Kk_ite (hX _ _ _ _ _ h383) (Kk_no)))))))) (hX _ _ _ _ _ h)
  | 11 => exact Kk_ob (kk_wantWord _ _ _ _ h) (fun _ h384 => Kk_ob (kk_want _ _ _ _ h384) (fun _ h385 => hX _ _ _ _ _ h385))
  | 12 => exact Kk_so h
  | b + 13 => exact Kk_no
theorem kk_s_statement {X : Nat → Nat → Nat → (Nat → Int32) → MS → Option (Int32 × MS)} (hX : ∀ e m b L (σ : MS), Kf c σ → Kk c (X e m b L σ)) (k d b : Nat) (L : Nat → Int32) (σ : MS) (h : Kf c σ) : Kk c (s_statement X k d b L σ) := by
  match b with
  | 0 => exact Kk_ob (kk_isStatement _ _ _ _ h) (fun _ h386 => Kk_ite (Kk_ob (kk_cannot _ _ _ _ h386) (fun _ h387 => Kk_so h387)) (hX _ _ _ _ _ h386))
  | 1 => exact Kk_ob (kk_isWord _ _ _ _ h) (fun _ h388 => Kk_ite (Kk_ob (kk_isWord _ _ _ _ h388) (fun _ h389 => Kk_ite (Kk_ob (kk_isWord _ _ _ _ h389) (fun _ h390 => Kk_ite (Kk_ob (kk_isSign _ _ _ _ h390) (fun _ h391 => Kk_ite (hX _ _ _ _ _ h391) (hX _ _ _ _ _ h391))) (hX _ _ _ _ _ h390))) (hX _ _ _ _ _ h389))) (hX _ _ _ _ _ h388))
  | 2 => exact hX _ _ _ _ _ h
  | 3 => exact hX _ _ _ _ _ h
  | 4 => exact Kk_ite (hX _ _ _ _ _ h) (Kk_ite (Kk_ob (kk_fault _ _ _ h) (fun _ h392 => hX _ _ _ _ _ h392)) (hX _ _ _ _ _ h))
  | 5 => exact Kk_ite (Kk_ite (Kk_ob (kk_fault _ _ _ h) (fun _ h393 => hX _ _ _ _ _ h393)) (hX _ _ _ _ _ h)) (hX _ _ _ _ _ h)
  | 6 => exact Kk_ite (hX _ _ _ _ _ h) (Kk_so h)
  | 7 => exact hX _ _ _ _ _ h
  | 8 => exact Kk_ite (Kk_ob (kk_begun _ _ _ _ h) (fun _ h394 => hX _ _ _ _ _ h394)) (hX _ _ _ _ _ h)
  | 9 => exact Kk_ob (kk_isSign _ _ _ _ h) (fun _ h395 => Kk_ite (hX _ _ _ _ _ h395) (Kk_ob (kk_partsOf _ _ _ _ h395) (fun _ h396 => hX _ _ _ _ _ h396)))
  | 10 => exact Kk_ite (Kk_od (fun _ => Kk_ob (hX _ _ _ _ _ h) (fun _ h397 => hX _ _ _ _ _ h397))) (hX _ _ _ _ _ h)
  | 11 => exact Kk_ite (Kk_od (fun _ => Kk_ob (hX _ _ _ _ _ h) (fun _ h398 => hX _ _ _ _ _ h398))) (hX _ _ _ _ _ h)
  | 12 => exact Kk_ite (Kk_od (fun _ => Kk_ob (hX _ _ _ _ _ h) (fun _ h399 => hX _ _ _ _ _ h399))) (hX _ _ _ _ _ h)
  | 13 => exact Kk_ob (kk_simple _ _ _ _ h) (fun _ h400 => hX _ _ _ _ _ h400)
  | 14 => exact Kk_ite (hX _ _ _ _ _ h) (Kk_no)
  | 15 => exact Kk_ite (hX _ _ _ _ _ h) (Kk_no)
  | 16 => exact Kk_so h
  | b + 17 => exact Kk_no
theorem kk_s_whiles {X : Nat → Nat → Nat → (Nat → Int32) → MS → Option (Int32 × MS)} (hX : ∀ e m b L (σ : MS), Kf c σ → Kk c (X e m b L σ)) (k d b : Nat) (L : Nat → Int32) (σ : MS) (h : Kf c σ) : Kk c (s_whiles X k d b L σ) := by
  match b with
  | 0 => exact Kk_ob (kk_node _ _ _ _ h) (fun _ h401 => hX _ _ _ _ _ h401)
  | 1 => exact Kk_ob (kk_take _ _ _ _ h) (fun _ h402 => Kk_ob (kk_exp _ _ _ _ h402) (fun _ h403 => Kk_ite (hX _ _ _ _ _ h403) (Kk_no)))
  | 2 => exact Kk_ob (kk_wantWord _ _ _ _ h) (fun _ h404 => hX _ _ _ _ _ h404)
  | 3 => exact Kk_od (fun _ => Kk_ob (hX _ _ _ _ _ h) (fun _ h405 => Kk_ite (hX _ _ _ _ _ h405) (Kk_no)))
  | 4 => exact hX _ _ _ _ _ h
  | 5 => exact Kk_ob (kk_wantWord _ _ _ _ h) (fun _ h406 => Kk_ob (kk_want _ _ _ _ h406) (fun _ h407 => hX _ _ _ _ _ h407))
  | 6 => exact Kk_so h
  | b + 7 => exact Kk_no
theorem kk_GS : ∀ (k d m b : Nat) (L : Nat → Int32) (σ : MS), Kf c σ → Kk c (x_GS k d m b L σ) := by
  intro k
  induction k with
  | zero => intro d m b L σ _; exact Kk_no
  | succ k ih =>
    intro d m b L σ h
    match m with
    | 0 => exact kk_s_block ih k d b L σ h
    | 1 => exact kk_s_fors ih k d b L σ h
    | 2 => exact kk_s_ifs ih k d b L σ h
    | 3 => exact kk_s_statement ih k d b L σ h
    | 4 => exact kk_s_whiles ih k d b L σ h
    | m + 5 => exact Kk_no
theorem kk_block (k b : Nat) (L : Nat → Int32) (σ : MS) (h : Kf c σ) : Kk c (x_block k b L σ) := kk_GS k 100 0 b L σ h
theorem kk_declareCallable : ∀ (k b : Nat) (L : Nat → Int32) (σ : MS), Kf c σ → Kk c (x_declareCallable k b L σ) := by
  intro k
  induction k with
  | zero => intro b L σ _; exact Kk_no
  | succ k ih =>
    intro b L σ h
    match b with
    | 0 =>
      refine Kk_eq (by rw [x_declareCallable]) ?_
      exact Kk_ob (kk_take _ _ _ _ h) (fun _ h408 => Kk_ob (kk_wantName _ _ _ _ h408) (fun _ h409 => Kk_ite (ih _ _ _ h409) (Kk_so h409)))
    | 1 =>
      refine Kk_eq (by rw [x_declareCallable]) ?_
      exact Kk_ob (kk_find _ _ _ _ h) (fun _ h410 => Kk_ite (ih _ _ _ h410) (Kk_ob (kk_fault _ _ _ h410) (fun _ h411 => ih _ _ _ h411)))
    | 2 =>
      refine Kk_eq (by rw [x_declareCallable]) ?_
      exact Kk_ite (Kk_ob (kk_fault _ _ _ h) (fun _ h412 => ih _ _ _ h412)) (ih _ _ _ h)
    | 3 =>
      refine Kk_eq (by rw [x_declareCallable]) ?_
      exact Kk_ite (ih _ _ _ h) (Kk_so h)
    | 4 =>
      refine Kk_eq (by rw [x_declareCallable]) ?_
      exact Kk_ite (ih _ _ _ h) (ih _ _ _ h)
    | 5 =>
      refine Kk_eq (by rw [x_declareCallable]) ?_
      exact ih _ _ _ h
    | 6 =>
      refine Kk_eq (by rw [x_declareCallable]) ?_
      exact Kk_ob (kk_tellEntity _ _ _ _ h) (fun _ h413 => Kk_ob (kk_take _ _ _ _ h413) (fun _ h414 => Kk_ite (Kk_ob (kk_isSign _ _ _ _ h414) (fun _ h415 => Kk_ite (Kk_ob (kk_cannot _ _ _ _ h415) (fun _ h416 => ih _ _ _ h416)) (ih _ _ _ h415))) (ih _ _ _ h414)))
    | 7 =>
      refine Kk_eq (by rw [x_declareCallable]) ?_
      exact Kk_ite (ih _ _ _ h) (Kk_so h)
    | 8 =>
      refine Kk_eq (by rw [x_declareCallable]) ?_
      exact ih _ _ _ h
    | 9 =>
      refine Kk_eq (by rw [x_declareCallable]) ?_
      exact Kk_ite (ih _ _ _ h) (ih _ _ _ h)
    | 10 =>
      refine Kk_eq (by rw [x_declareCallable]) ?_
      exact ih _ _ _ h
    | 11 =>
      refine Kk_eq (by rw [x_declareCallable]) ?_
      exact ih _ _ _ h
    | 12 =>
      refine Kk_eq (by rw [x_declareCallable]) ?_
      exact ih _ _ _ h
    | 13 =>
      refine Kk_eq (by rw [x_declareCallable]) ?_
      exact Kk_ite (ih _ _ _ h) (Kk_no)
    | 14 =>
      refine Kk_eq (by rw [x_declareCallable]) ?_
      exact ih _ _ _ h
    | 15 =>
      refine Kk_eq (by rw [x_declareCallable]) ?_
      exact Kk_ite (ih _ _ _ h) (Kk_no)
    | 16 =>
      refine Kk_eq (by rw [x_declareCallable]) ?_
      exact Kk_ite (ih _ _ _ h) (Kk_no)
    | 17 =>
      refine Kk_eq (by rw [x_declareCallable]) ?_
      exact Kk_ite (ih _ _ _ h) (Kk_no)
    | 18 =>
      refine Kk_eq (by rw [x_declareCallable]) ?_
      exact Kk_ob (kk_open _ _ _ _ h) (fun _ h417 => Kk_ite (Kk_ob (kk_take _ _ _ _ h417) (fun _ h418 => ih _ _ _ h418)) (ih _ _ _ h417))
    | 19 =>
      refine Kk_eq (by rw [x_declareCallable]) ?_
      exact Kk_ob (kk_paramsOf _ _ _ _ h) (fun _ h419 => Kk_ite (Kk_ob (kk_take _ _ _ _ h419) (fun _ h420 => ih _ _ _ h420)) (ih _ _ _ h419))
    | 20 =>
      refine Kk_eq (by rw [x_declareCallable]) ?_
      exact ih _ _ _ h
    | 21 =>
      refine Kk_eq (by rw [x_declareCallable]) ?_
      exact Kk_ite (ih _ _ _ h) (Kk_ob (kk_want _ _ _ _ h) (fun _ h421 => ih _ _ _ h421))
    | 22 =>
      refine Kk_eq (by rw [x_declareCallable]) ?_
      exact Kk_ite (Kk_ob (kk_isWord _ _ _ _ h) (fun _ h422 => Kk_ite (ih _ _ _ h422) (Kk_ob (kk_declareVar _ _ _ _ h422) (fun _ h423 => ih _ _ _ h423)))) (ih _ _ _ h)
    | 23 =>
      refine Kk_eq (by rw [x_declareCallable]) ?_
      exact Kk_ob (kk_block _ _ _ _ h) (fun _ h424 => Kk_ite (ih _ _ _ h424) (Kk_no))
    | 24 =>
      refine Kk_eq (by rw [x_declareCallable]) ?_
      exact Kk_ob (kk_wantWord _ _ _ _ h) (fun _ h425 => ih _ _ _ h425)
    | 25 =>
      refine Kk_eq (by rw [x_declareCallable]) ?_
      exact Kk_ob (kk_want _ _ _ _ h) (fun _ h426 => Kk_ob (kk_exp _ _ _ _ h426) (fun _ h427 => Kk_ite (ih _ _ _ h427) (Kk_no)))
    | 26 =>
      refine Kk_eq (by rw [x_declareCallable]) ?_
      exact Kk_ob (kk_want _ _ _ _ h) (fun _ h428 => ih _ _ _ h428)
    | 27 =>
      refine Kk_eq (by rw [x_declareCallable]) ?_
      exact ih _ _ _ h
    | 28 =>
      refine Kk_eq (by rw [x_declareCallable]) ?_
      exact ih _ _ _ h
    | 29 =>
      refine Kk_eq (by rw [x_declareCallable]) ?_
      exact Kk_so h
    | b + 30 =>
      refine Kk_eq (by rw [x_declareCallable]) Kk_no
theorem kk_readProgram : ∀ (k b : Nat) (L : Nat → Int32) (σ : MS), (b = 0 → σ.1 11 = c) → Kf c σ → Kk c (x_readProgram k b L σ) := by
  intro k
  induction k with
  | zero => intro b L σ _ _; exact Kk_no
  | succ k ih =>
    intro b L σ h0 h
    match b with
    | 0 =>
      refine Kk_eq (by rw [x_readProgram]) ?_
      exact Kk_ob (kk_beginText _ _ _ _ (h0 rfl)) (fun _ h429 => ih _ _ _ (fun z => absurd z (by decide)) h429)
    | 1 =>
      refine Kk_eq (by rw [x_readProgram]) ?_
      exact ih _ _ _ (fun z => absurd z (by decide)) h
    | 2 =>
      refine Kk_eq (by rw [x_readProgram]) ?_
      exact ih _ _ _ (fun z => absurd z (by decide)) h
    | 3 =>
      refine Kk_eq (by rw [x_readProgram]) ?_
      exact ih _ _ _ (fun z => absurd z (by decide)) h
    | 4 =>
      refine Kk_eq (by rw [x_readProgram]) ?_
      exact ih _ _ _ (fun z => absurd z (by decide)) h
    | 5 =>
      refine Kk_eq (by rw [x_readProgram]) ?_
      exact ih _ _ _ (fun z => absurd z (by decide)) h
    | 6 =>
      refine Kk_eq (by rw [x_readProgram]) ?_
      exact ih _ _ _ (fun z => absurd z (by decide)) h
    | 7 =>
      refine Kk_eq (by rw [x_readProgram]) ?_
      exact Kk_ite (ih _ _ _ (fun z => absurd z (by decide)) h) (Kk_no)
    | 8 =>
      refine Kk_eq (by rw [x_readProgram]) ?_
      exact ih _ _ _ (fun z => absurd z (by decide)) h
    | 9 =>
      refine Kk_eq (by rw [x_readProgram]) ?_
      exact ih _ _ _ (fun z => absurd z (by decide)) h
    | 10 =>
      refine Kk_eq (by rw [x_readProgram]) ?_
      exact Kk_ob (kk_take _ _ _ _ h) (fun _ h430 => ih _ _ _ (fun z => absurd z (by decide)) h430)
    | 11 =>
      refine Kk_eq (by rw [x_readProgram]) ?_
      exact Kk_ite (Kk_ob (kk_isWord _ _ _ _ h) (fun _ h431 => Kk_ite (Kk_ob (kk_isWord _ _ _ _ h431) (fun _ h432 => Kk_ite (Kk_ob (kk_isWord _ _ _ _ h432) (fun _ h433 => Kk_ite (ih _ _ _ (fun z => absurd z (by decide)) h433) (ih _ _ _ (fun z => absurd z (by decide)) h433))) (ih _ _ _ (fun z => absurd z (by decide)) h432))) (ih _ _ _ (fun z => absurd z (by decide)) h431))) (ih _ _ _ (fun z => absurd z (by decide)) h)
    | 12 =>
      refine Kk_eq (by rw [x_readProgram]) ?_
      exact Kk_ob (kk_isWord _ _ _ _ h) (fun _ h434 => Kk_ite (ih _ _ _ (fun z => absurd z (by decide)) h434) (Kk_ob (kk_declareVar _ _ _ _ h434) (fun _ h435 => ih _ _ _ (fun z => absurd z (by decide)) h435)))
    | 13 =>
      refine Kk_eq (by rw [x_readProgram]) ?_
      exact Kk_ob (kk_isWord _ _ _ _ h) (fun _ h436 => Kk_ob (kk_declareCallable _ _ _ _ h436) (fun _ h437 => ih _ _ _ (fun z => absurd z (by decide)) h437))
    | 14 =>
      refine Kk_eq (by rw [x_readProgram]) ?_
      exact Kk_ob (kk_block _ _ _ _ h) (fun _ h438 => ih _ _ _ (fun z => absurd z (by decide)) h438)
    | 15 =>
      refine Kk_eq (by rw [x_readProgram]) ?_
      exact Kk_ite (Kk_ite (ih _ _ _ (fun z => absurd z (by decide)) h) (Kk_ob (kk_cannot _ _ _ _ h) (fun _ h439 => ih _ _ _ (fun z => absurd z (by decide)) h439))) (ih _ _ _ (fun z => absurd z (by decide)) h)
    | 16 =>
      refine Kk_eq (by rw [x_readProgram]) ?_
      exact Kk_so h
    | b + 17 =>
      refine Kk_eq (by rw [x_readProgram]) Kk_no
theorem kk_readExp : ∀ (k b : Nat) (L : Nat → Int32) (σ : MS), (b = 0 → σ.1 11 = c) → Kf c σ → Kk c (x_readExp k b L σ) := by
  intro k
  induction k with
  | zero => intro b L σ _ _; exact Kk_no
  | succ k ih =>
    intro b L σ h0 h
    match b with
    | 0 =>
      refine Kk_eq (by rw [x_readExp]) ?_
      exact Kk_ob (kk_beginText _ _ _ _ (h0 rfl)) (fun _ h440 => ih _ _ _ (fun z => absurd z (by decide)) h440)
    | 1 =>
      refine Kk_eq (by rw [x_readExp]) ?_
      exact Kk_ite (ih _ _ _ (fun z => absurd z (by decide)) h) (Kk_no)
    | 2 =>
      refine Kk_eq (by rw [x_readExp]) ?_
      exact Kk_ite (ih _ _ _ (fun z => absurd z (by decide)) h) (Kk_no)
    | 3 =>
      refine Kk_eq (by rw [x_readExp]) ?_
      exact ih _ _ _ (fun z => absurd z (by decide)) h
    | 4 =>
      refine Kk_eq (by rw [x_readExp]) ?_
      exact Kk_ob (kk_take _ _ _ _ h) (fun _ h441 => Kk_ob (kk_exp _ _ _ _ h441) (fun _ h442 => Kk_ite (Kk_ite (ih _ _ _ (fun z => absurd z (by decide)) h442) (Kk_ob (kk_cannot _ _ _ _ h442) (fun _ h443 => ih _ _ _ (fun z => absurd z (by decide)) h443))) (ih _ _ _ (fun z => absurd z (by decide)) h442)))
    | 5 =>
      refine Kk_eq (by rw [x_readExp]) ?_
      exact ih _ _ _ (fun z => absurd z (by decide)) h
    | 6 =>
      refine Kk_eq (by rw [x_readExp]) ?_
      exact Kk_so h
    | b + 7 =>
      refine Kk_eq (by rw [x_readExp]) Kk_no
end KKS
/-- said besides of a run that ends -/
theorem Tm_kk {c : Int32} {f : Nat → Option (Int32 × MS)} {P : Int32 × MS → Prop} (t : Tm f P) (h : ∀ k, Kk c (f k)) : Tm f (fun r => P r ∧ Kf c r.2) := by
  obtain ⟨r, k0, h1, h2⟩ := t
  exact ⟨r, k0, h1, h2, h k0 r (h1 k0 (Nat.le_refl _))⟩
end JnS333k
