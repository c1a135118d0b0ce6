/-! What round never writes stays (reference; made by ku.py). -/
abbrev KuT := Nat → Int32
/-- params -/
def ku (σ : MS) : KuT := σ.2.2 18
def Ku (x : Option (Int32 × MS)) (w : KuT) : Prop := ∀ r, x = some r → ku r.2 = w
theorem Ku_no (w : KuT) : Ku none w := fun _ h => by cases h
theorem Ku_so {r : Int32 × MS} {w : KuT} (h : ku r.2 = w) : Ku (some r) w := fun _ e => by cases e; exact h
theorem Ku_eq {a a' : Option (Int32 × MS)} {w : KuT} (h1 : a = a') (h : Ku a' w) : Ku a w := by rw [h1]; exact h
theorem Ku_c {a : Option (Int32 × MS)} {w w' : KuT} (h : w' = w) (t : Ku a w') : Ku a w := h ▸ t
theorem Ku_ob {x : Option (Int32 × MS)} {f : Int32 × MS → Option (Int32 × MS)} {w : KuT} (h1 : Ku x w) (h2 : ∀ r, ku r.2 = w → Ku (f r) w) : Ku (ob x f) w := by
  intro r hr
  cases x with
  | none => cases hr
  | some s => exact h2 s (h1 s rfl) r hr
theorem Ku_ite {c : Prop} {_ : Decidable c} {a b : Option (Int32 × MS)} {w : KuT} (h1 : Ku a w) (h2 :  Ku b w) : Ku (if c then a else b) w := by
  by_cases h : c
  · rw [if_pos h]; exact h1
  · rw [if_neg h]; exact h2
theorem Ku_od {d : Nat} {f : Nat → Option (Int32 × MS)} {w : KuT} (h : ∀ e, Ku (f e) w) : Ku (od d f) w := by
  cases d with
  | zero => exact Ku_no _
  | succ e => exact h e
theorem ku_good : ∀ (k b : Nat) (L : Nat → Int32) (σ : MS), Ku (x_good k b L σ) (ku σ) := by
  intro k
  induction k with
  | zero => intro b L σ; exact Ku_no _
  | succ k ih =>
    intro b L σ
    match b with
    | 0 =>
      refine Ku_eq (by rw [x_good]) ?_
      exact Ku_c rfl (ih _ _ _)
    | 1 =>
      refine Ku_eq (by rw [x_good]) ?_
      exact Ku_ite (Ku_c rfl (ih _ _ _)) (Ku_c rfl (ih _ _ _))
    | 2 =>
      refine Ku_eq (by rw [x_good]) ?_
      exact Ku_c rfl (ih _ _ _)
    | 3 =>
      refine Ku_eq (by rw [x_good]) ?_
      exact Ku_ite (Ku_so rfl) (Ku_no _)
    | b + 4 =>
      refine Ku_eq (by rw [x_good]) (Ku_no _)
theorem ku_load__54 : ∀ (k b : Nat) (L : Nat → Int32) (σ : MS), Ku (x_load__54 k b L σ) (ku σ) := by
  intro k
  induction k with
  | zero => intro b L σ; exact Ku_no _
  | succ k ih =>
    intro b L σ
    match b with
    | 0 =>
      refine Ku_eq (by rw [x_load__54]) ?_
      exact Ku_c rfl (ih _ _ _)
    | 1 =>
      refine Ku_eq (by rw [x_load__54]) ?_
      exact Ku_ite (Ku_c rfl (ih _ _ _)) (Ku_ite (Ku_ite (Ku_c rfl (ih _ _ _)) (Ku_no _)) (Ku_no _))
    | 2 =>
      refine Ku_eq (by rw [x_load__54]) ?_
      exact Ku_c rfl (ih _ _ _)
    | 3 =>
      refine Ku_eq (by rw [x_load__54]) ?_
      exact Ku_so rfl
    | b + 4 =>
      refine Ku_eq (by rw [x_load__54]) (Ku_no _)
theorem ku_beginText : ∀ (k b : Nat) (L : Nat → Int32) (σ : MS), Ku (x_beginText k b L σ) (ku σ) := by
  intro k
  induction k with
  | zero => intro b L σ; exact Ku_no _
  | succ k ih =>
    intro b L σ
    match b with
    | 0 =>
      refine Ku_eq (by rw [x_beginText]) ?_
      exact Ku_c rfl (ih _ _ _)
    | 1 =>
      refine Ku_eq (by rw [x_beginText]) ?_
      exact Ku_c rfl (ih _ _ _)
    | 2 =>
      refine Ku_eq (by rw [x_beginText]) ?_
      exact Ku_c rfl (ih _ _ _)
    | 3 =>
      refine Ku_eq (by rw [x_beginText]) ?_
      exact Ku_c rfl (ih _ _ _)
    | 4 =>
      refine Ku_eq (by rw [x_beginText]) ?_
      exact Ku_c rfl (ih _ _ _)
    | 5 =>
      refine Ku_eq (by rw [x_beginText]) ?_
      exact Ku_so rfl
    | b + 6 =>
      refine Ku_eq (by rw [x_beginText]) (Ku_no _)
theorem ku_byteAt : ∀ (k b : Nat) (L : Nat → Int32) (σ : MS), Ku (x_byteAt k b L σ) (ku σ) := by
  intro k
  induction k with
  | zero => intro b L σ; exact Ku_no _
  | succ k ih =>
    intro b L σ
    match b with
    | 0 =>
      refine Ku_eq (by rw [x_byteAt]) ?_
      exact Ku_ite (Ku_c rfl (ih _ _ _)) (Ku_ite (Ku_c rfl (ih _ _ _)) (Ku_no _))
    | 1 =>
      refine Ku_eq (by rw [x_byteAt]) ?_
      exact Ku_c rfl (ih _ _ _)
    | 2 =>
      refine Ku_eq (by rw [x_byteAt]) ?_
      exact Ku_so rfl
    | b + 3 =>
      refine Ku_eq (by rw [x_byteAt]) (Ku_no _)
theorem ku_skip : ∀ (k b : Nat) (L : Nat → Int32) (σ : MS), Ku (x_skip k b L σ) (ku σ) := by
  intro k
  induction k with
  | zero => intro b L σ; exact Ku_no _
  | succ k ih =>
    intro b L σ
    match b with
    | 0 =>
      refine Ku_eq (by rw [x_skip]) ?_
      exact Ku_c rfl (ih _ _ _)
    | 1 =>
      refine Ku_eq (by rw [x_skip]) ?_
      exact Ku_ite (Ku_c rfl (ih _ _ _)) (Ku_ob (Ku_c rfl (ku_byteAt _ _ _ _)) (fun _ h1 => Ku_ite (Ku_c h1 (ih _ _ _)) (Ku_ite (Ku_c h1 (ih _ _ _)) (Ku_ite (Ku_c h1 (ih _ _ _)) (Ku_ite (Ku_c h1 (ih _ _ _)) (Ku_ite (Ku_c h1 (ih _ _ _)) (Ku_c h1 (ih _ _ _))))))))
    | 2 =>
      refine Ku_eq (by rw [x_skip]) ?_
      exact Ku_c rfl (ih _ _ _)
    | 3 =>
      refine Ku_eq (by rw [x_skip]) ?_
      exact Ku_ite (Ku_ob (Ku_c rfl (ku_byteAt _ _ _ _)) (fun _ h2 => Ku_ite (Ku_c h2 (ih _ _ _)) (Ku_c h2 (ih _ _ _)))) (Ku_c rfl (ih _ _ _))
    | 4 =>
      refine Ku_eq (by rw [x_skip]) ?_
      exact Ku_ite (Ku_c rfl (ih _ _ _)) (Ku_ite (Ku_ite (Ku_c rfl (ih _ _ _)) (Ku_c rfl (ih _ _ _))) (Ku_no _))
    | 5 =>
      refine Ku_eq (by rw [x_skip]) ?_
      exact Ku_c rfl (ih _ _ _)
    | 6 =>
      refine Ku_eq (by rw [x_skip]) ?_
      exact Ku_c rfl (ih _ _ _)
    | 7 =>
      refine Ku_eq (by rw [x_skip]) ?_
      exact Ku_so rfl
    | b + 8 =>
      refine Ku_eq (by rw [x_skip]) (Ku_no _)
theorem ku_isLetter : ∀ (k b : Nat) (L : Nat → Int32) (σ : MS), Ku (x_isLetter k b L σ) (ku σ) := by
  intro k
  induction k with
  | zero => intro b L σ; exact Ku_no _
  | succ k ih =>
    intro b L σ
    match b with
    | 0 =>
      refine Ku_eq (by rw [x_isLetter]) ?_
      exact Ku_ite (Ku_c rfl (ih _ _ _)) (Ku_ite (Ku_c rfl (ih _ _ _)) (Ku_c rfl (ih _ _ _)))
    | 1 =>
      refine Ku_eq (by rw [x_isLetter]) ?_
      exact Ku_ite (Ku_c rfl (ih _ _ _)) (Ku_ite (Ku_c rfl (ih _ _ _)) (Ku_c rfl (ih _ _ _)))
    | 2 =>
      refine Ku_eq (by rw [x_isLetter]) ?_
      exact Ku_c rfl (ih _ _ _)
    | 3 =>
      refine Ku_eq (by rw [x_isLetter]) ?_
      exact Ku_c rfl (ih _ _ _)
    | 4 =>
      refine Ku_eq (by rw [x_isLetter]) ?_
      exact Ku_ite (Ku_so rfl) (Ku_no _)
    | b + 5 =>
      refine Ku_eq (by rw [x_isLetter]) (Ku_no _)
theorem ku_isDigit : ∀ (k b : Nat) (L : Nat → Int32) (σ : MS), Ku (x_isDigit k b L σ) (ku σ) := by
  intro k
  induction k with
  | zero => intro b L σ; exact Ku_no _
  | succ k ih =>
    intro b L σ
    match b with
    | 0 =>
      refine Ku_eq (by rw [x_isDigit]) ?_
      exact Ku_ite (Ku_c rfl (ih _ _ _)) (Ku_ite (Ku_c rfl (ih _ _ _)) (Ku_c rfl (ih _ _ _)))
    | 1 =>
      refine Ku_eq (by rw [x_isDigit]) ?_
      exact Ku_c rfl (ih _ _ _)
    | 2 =>
      refine Ku_eq (by rw [x_isDigit]) ?_
      exact Ku_ite (Ku_so rfl) (Ku_no _)
    | b + 3 =>
      refine Ku_eq (by rw [x_isDigit]) (Ku_no _)
theorem ku_wordAt : ∀ (k b : Nat) (L : Nat → Int32) (σ : MS), Ku (x_wordAt k b L σ) (ku σ) := by
  intro k
  induction k with
  | zero => intro b L σ; exact Ku_no _
  | succ k ih =>
    intro b L σ
    match b with
    | 0 =>
      refine Ku_eq (by rw [x_wordAt]) ?_
      exact Ku_c rfl (ih _ _ _)
    | 1 =>
      refine Ku_eq (by rw [x_wordAt]) ?_
      exact Ku_ite (Ku_c rfl (ih _ _ _)) (Ku_c rfl (ih _ _ _))
    | 2 =>
      refine Ku_eq (by rw [x_wordAt]) ?_
      exact Ku_ite (Ku_c rfl (ih _ _ _)) (Ku_ite (Ku_ite (Ku_ite (Ku_c rfl (ih _ _ _)) (Ku_c rfl (ih _ _ _))) (Ku_no _)) (Ku_no _))
    | 3 =>
      refine Ku_eq (by rw [x_wordAt]) ?_
      exact Ku_ite (Ku_ite (Ku_ite (Ku_so rfl) (Ku_c rfl (ih _ _ _))) (Ku_no _)) (Ku_c rfl (ih _ _ _))
    | 4 =>
      refine Ku_eq (by rw [x_wordAt]) ?_
      exact Ku_ite (Ku_ite (Ku_c rfl (ih _ _ _)) (Ku_c rfl (ih _ _ _))) (Ku_no _)
    | 5 =>
      refine Ku_eq (by rw [x_wordAt]) ?_
      exact Ku_c rfl (ih _ _ _)
    | 6 =>
      refine Ku_eq (by rw [x_wordAt]) ?_
      exact Ku_so rfl
    | b + 7 =>
      refine Ku_eq (by rw [x_wordAt]) (Ku_no _)
theorem ku_sign : ∀ (k b : Nat) (L : Nat → Int32) (σ : MS), Ku (x_sign k b L σ) (ku σ) := by
  intro k
  induction k with
  | zero => intro b L σ; exact Ku_no _
  | succ k ih =>
    intro b L σ
    match b with
    | 0 =>
      refine Ku_eq (by rw [x_sign]) ?_
      exact Ku_ite (Ku_c rfl (ih _ _ _)) (Ku_ite (Ku_c rfl (ih _ _ _)) (Ku_ite (Ku_c rfl (ih _ _ _)) (Ku_ite (Ku_c rfl (ih _ _ _)) (Ku_ite (Ku_c rfl (ih _ _ _)) (Ku_ite (Ku_c rfl (ih _ _ _)) (Ku_ite (Ku_c rfl (ih _ _ _)) (Ku_ite (Ku_c rfl (ih _ _ _)) (Ku_ite (Ku_c rfl (ih _ _ _)) (Ku_ite (Ku_c rfl (ih _ _ _)) (Ku_ite (Ku_c rfl (ih _ _ _)) (Ku_ite (Ku_c rfl (ih _ _ _)) (Ku_ite (Ku_c rfl (ih _ _ _)) (Ku_ite (Ku_c rfl (ih _ _ _)) (Ku_ite (Ku_c rfl (ih _ _ _)) (Ku_ite (Ku_c rfl (ih _ _ _)) (Ku_ite (Ku_c rfl (ih _ _ _)) (Ku_ite (Ku_c rfl (ih _ _ _)) (Ku_ite (Ku_c rfl (ih _ _ _)) (Ku_c rfl (ih _ _ _))))))))))))))))))))
    | 1 =>
      refine Ku_eq (by rw [x_sign]) ?_
      exact Ku_ite (Ku_c rfl (ih _ _ _)) (Ku_c rfl (ih _ _ _))
    | 2 =>
      refine Ku_eq (by rw [x_sign]) ?_
      exact Ku_c rfl (ih _ _ _)
    | 3 =>
      refine Ku_eq (by rw [x_sign]) ?_
      exact Ku_so rfl
    | 4 =>
      refine Ku_eq (by rw [x_sign]) ?_
      exact Ku_so rfl
    | 5 =>
      refine Ku_eq (by rw [x_sign]) ?_
      exact Ku_so rfl
    | 6 =>
      refine Ku_eq (by rw [x_sign]) ?_
      exact Ku_ite (Ku_c rfl (ih _ _ _)) (Ku_c rfl (ih _ _ _))
    | 7 =>
      refine Ku_eq (by rw [x_sign]) ?_
      exact Ku_c rfl (ih _ _ _)
    | 8 =>
      refine Ku_eq (by rw [x_sign]) ?_
      exact Ku_so rfl
    | 9 =>
      refine Ku_eq (by rw [x_sign]) ?_
      exact Ku_so rfl
    | 10 =>
      refine Ku_eq (by rw [x_sign]) ?_
      exact Ku_so rfl
    | 11 =>
      refine Ku_eq (by rw [x_sign]) ?_
      exact Ku_so rfl
    | 12 =>
      refine Ku_eq (by rw [x_sign]) ?_
      exact Ku_so rfl
    | 13 =>
      refine Ku_eq (by rw [x_sign]) ?_
      exact Ku_so rfl
    | 14 =>
      refine Ku_eq (by rw [x_sign]) ?_
      exact Ku_so rfl
    | 15 =>
      refine Ku_eq (by rw [x_sign]) ?_
      exact Ku_so rfl
    | 16 =>
      refine Ku_eq (by rw [x_sign]) ?_
      exact Ku_so rfl
    | 17 =>
      refine Ku_eq (by rw [x_sign]) ?_
      exact Ku_so rfl
    | 18 =>
      refine Ku_eq (by rw [x_sign]) ?_
      exact Ku_ite (Ku_c rfl (ih _ _ _)) (Ku_c rfl (ih _ _ _))
    | 19 =>
      refine Ku_eq (by rw [x_sign]) ?_
      exact Ku_c rfl (ih _ _ _)
    | 20 =>
      refine Ku_eq (by rw [x_sign]) ?_
      exact Ku_so rfl
    | 21 =>
      refine Ku_eq (by rw [x_sign]) ?_
      exact Ku_so rfl
    | 22 =>
      refine Ku_eq (by rw [x_sign]) ?_
      exact Ku_ite (Ku_c rfl (ih _ _ _)) (Ku_c rfl (ih _ _ _))
    | 23 =>
      refine Ku_eq (by rw [x_sign]) ?_
      exact Ku_c rfl (ih _ _ _)
    | 24 =>
      refine Ku_eq (by rw [x_sign]) ?_
      exact Ku_so rfl
    | 25 =>
      refine Ku_eq (by rw [x_sign]) ?_
      exact Ku_ite (Ku_c rfl (ih _ _ _)) (Ku_c rfl (ih _ _ _))
    | 26 =>
      refine Ku_eq (by rw [x_sign]) ?_
      exact Ku_c rfl (ih _ _ _)
    | 27 =>
      refine Ku_eq (by rw [x_sign]) ?_
      exact Ku_so rfl
    | 28 =>
      refine Ku_eq (by rw [x_sign]) ?_
      exact Ku_ite (Ku_c rfl (ih _ _ _)) (Ku_c rfl (ih _ _ _))
    | 29 =>
      refine Ku_eq (by rw [x_sign]) ?_
      exact Ku_c rfl (ih _ _ _)
    | 30 =>
      refine Ku_eq (by rw [x_sign]) ?_
      exact Ku_so rfl
    | 31 =>
      refine Ku_eq (by rw [x_sign]) ?_
      exact Ku_so rfl
    | 32 =>
      refine Ku_eq (by rw [x_sign]) ?_
      exact Ku_so rfl
    | b + 33 =>
      refine Ku_eq (by rw [x_sign]) (Ku_no _)
theorem ku_fault : ∀ (k b : Nat) (L : Nat → Int32) (σ : MS), Ku (x_fault k b L σ) (ku σ) := by
  intro k
  induction k with
  | zero => intro b L σ; exact Ku_no _
  | succ k ih =>
    intro b L σ
    match b with
    | 0 =>
      refine Ku_eq (by rw [x_fault]) ?_
      exact Ku_ite (Ku_c rfl (ih _ _ _)) (Ku_c rfl (ih _ _ _))
    | 1 =>
      refine Ku_eq (by rw [x_fault]) ?_
      exact Ku_c rfl (ih _ _ _)
    | 2 =>
      refine Ku_eq (by rw [x_fault]) ?_
      exact Ku_c rfl (ih _ _ _)
    | 3 =>
      refine Ku_eq (by rw [x_fault]) ?_
      exact Ku_so rfl
    | b + 4 =>
      refine Ku_eq (by rw [x_fault]) (Ku_no _)
theorem ku_take : ∀ (k b : Nat) (L : Nat → Int32) (σ : MS), Ku (x_take k b L σ) (ku σ) := by
  intro k
  induction k with
  | zero => intro b L σ; exact Ku_no _
  | succ k ih =>
    intro b L σ
    match b with
    | 0 =>
      refine Ku_eq (by rw [x_take]) ?_
      exact Ku_ob (Ku_c rfl (ku_skip _ _ _ _)) (fun _ h3 => Ku_c h3 (ih _ _ _))
    | 1 =>
      refine Ku_eq (by rw [x_take]) ?_
      exact Ku_ite (Ku_c rfl (ih _ _ _)) (Ku_c rfl (ih _ _ _))
    | 2 =>
      refine Ku_eq (by rw [x_take]) ?_
      exact Ku_ob (Ku_c rfl (ku_byteAt _ _ _ _)) (fun _ h4 => Ku_ob (Ku_c h4 (ku_isLetter _ _ _ _)) (fun _ h5 => Ku_ite (Ku_c h5 (ih _ _ _)) (Ku_c h5 (ih _ _ _))))
    | 3 =>
      refine Ku_eq (by rw [x_take]) ?_
      exact Ku_ob (Ku_c rfl (ku_byteAt _ _ _ _)) (fun _ h6 => Ku_ob (Ku_c h6 (ku_isLetter _ _ _ _)) (fun _ h7 => Ku_ite (Ku_ob (Ku_c h7 (ku_byteAt _ _ _ _)) (fun _ h8 => Ku_ob (Ku_c h8 (ku_isDigit _ _ _ _)) (fun _ h9 => Ku_ite (Ku_ob (Ku_c h9 (ku_byteAt _ _ _ _)) (fun _ h10 => Ku_ite (Ku_c h10 (ih _ _ _)) (Ku_c h10 (ih _ _ _)))) (Ku_c h9 (ih _ _ _))))) (Ku_c h7 (ih _ _ _))))
    | 4 =>
      refine Ku_eq (by rw [x_take]) ?_
      exact Ku_c rfl (ih _ _ _)
    | 5 =>
      refine Ku_eq (by rw [x_take]) ?_
      exact Ku_ob (Ku_c rfl (ku_wordAt _ _ _ _)) (fun _ h11 => Ku_c h11 (ih _ _ _))
    | 6 =>
      refine Ku_eq (by rw [x_take]) ?_
      exact Ku_ite (Ku_c rfl (ih _ _ _)) (Ku_c rfl (ih _ _ _))
    | 7 =>
      refine Ku_eq (by rw [x_take]) ?_
      exact Ku_ite (Ku_c rfl (ih _ _ _)) (Ku_c rfl (ih _ _ _))
    | 8 =>
      refine Ku_eq (by rw [x_take]) ?_
      exact Ku_c rfl (ih _ _ _)
    | 9 =>
      refine Ku_eq (by rw [x_take]) ?_
      exact Ku_c rfl (ih _ _ _)
    | 10 =>
      refine Ku_eq (by rw [x_take]) ?_
      exact Ku_ob (Ku_c rfl (ku_byteAt _ _ _ _)) (fun _ h12 => Ku_ob (Ku_c h12 (ku_isDigit _ _ _ _)) (fun _ h13 => Ku_ite (Ku_c h13 (ih _ _ _)) (Ku_c h13 (ih _ _ _))))
    | 11 =>
      refine Ku_eq (by rw [x_take]) ?_
      exact Ku_ob (Ku_c rfl (ku_byteAt _ _ _ _)) (fun _ h14 => Ku_ob (Ku_c h14 (ku_isDigit _ _ _ _)) (fun _ h15 => Ku_ite (Ku_c h15 (ih _ _ _)) (Ku_c h15 (ih _ _ _))))
    | 12 =>
      refine Ku_eq (by rw [x_take]) ?_
      exact Ku_ite (Ku_c rfl (ih _ _ _)) (Ku_c rfl (ih _ _ _))
    | 13 =>
      refine Ku_eq (by rw [x_take]) ?_
      exact Ku_c rfl (ih _ _ _)
    | 14 =>
      refine Ku_eq (by rw [x_take]) ?_
      exact Ku_c rfl (ih _ _ _)
    | 15 =>
      refine Ku_eq (by rw [x_take]) ?_
      exact Ku_ob (Ku_c rfl (ku_byteAt _ _ _ _)) (fun _ h16 => Ku_ite (Ku_c h16 (ih _ _ _)) (Ku_c h16 (ih _ _ _)))
    | 16 =>
      refine Ku_eq (by rw [x_take]) ?_
      exact Ku_ite (Ku_c rfl (ih _ _ _)) (Ku_ite (Ku_ite (Ku_c rfl (ih _ _ _)) (Ku_ite (Ku_ite (Ku_c rfl (ih _ _ _)) (Ku_c rfl (ih _ _ _))) (Ku_no _))) (Ku_no _))
    | 17 =>
      refine Ku_eq (by rw [x_take]) ?_
      exact Ku_ite (Ku_c rfl (ih _ _ _)) (Ku_ite (Ku_ite (Ku_c rfl (ih _ _ _)) (Ku_c rfl (ih _ _ _))) (Ku_no _))
    | 18 =>
      refine Ku_eq (by rw [x_take]) ?_
      exact Ku_c rfl (ih _ _ _)
    | 19 =>
      refine Ku_eq (by rw [x_take]) ?_
      exact Ku_ite (Ku_c rfl (ih _ _ _)) (Ku_ite (Ku_c rfl (ih _ _ _)) (Ku_c rfl (ih _ _ _)))
    | 20 =>
      refine Ku_eq (by rw [x_take]) ?_
      exact Ku_c rfl (ih _ _ _)
    | 21 =>
      refine Ku_eq (by rw [x_take]) ?_
      exact Ku_c rfl (ih _ _ _)
    | 22 =>
      refine Ku_eq (by rw [x_take]) ?_
      exact Ku_ite (Ku_c rfl (ih _ _ _)) (Ku_c rfl (ih _ _ _))
    | 23 =>
      refine Ku_eq (by rw [x_take]) ?_
      exact Ku_c rfl (ih _ _ _)
    | 24 =>
      refine Ku_eq (by rw [x_take]) ?_
      exact Ku_c rfl (ih _ _ _)
    | 25 =>
      refine Ku_eq (by rw [x_take]) ?_
      exact Ku_ob (Ku_c rfl (ku_byteAt _ _ _ _)) (fun _ h17 => Ku_ob (Ku_c h17 (ku_byteAt _ _ _ _)) (fun _ h18 => Ku_ob (Ku_c h18 (ku_sign _ _ _ _)) (fun _ h19 => Ku_c h19 (ih _ _ _))))
    | 26 =>
      refine Ku_eq (by rw [x_take]) ?_
      exact Ku_ite (Ku_c rfl (ih _ _ _)) (Ku_c rfl (ih _ _ _))
    | 27 =>
      refine Ku_eq (by rw [x_take]) ?_
      exact Ku_c rfl (ih _ _ _)
    | 28 =>
      refine Ku_eq (by rw [x_take]) ?_
      exact Ku_c rfl (ih _ _ _)
    | 29 =>
      refine Ku_eq (by rw [x_take]) ?_
      exact Ku_ite (Ku_c rfl (ih _ _ _)) (Ku_ite (Ku_c rfl (ih _ _ _)) (Ku_ite (Ku_c rfl (ih _ _ _)) (Ku_ite (Ku_c rfl (ih _ _ _)) (Ku_ite (Ku_c rfl (ih _ _ _)) (Ku_ite (Ku_c rfl (ih _ _ _)) (Ku_c rfl (ih _ _ _)))))))
    | 30 =>
      refine Ku_eq (by rw [x_take]) ?_
      exact Ku_c rfl (ih _ _ _)
    | 31 =>
      refine Ku_eq (by rw [x_take]) ?_
      exact Ku_c rfl (ih _ _ _)
    | 32 =>
      refine Ku_eq (by rw [x_take]) ?_
      exact Ku_c rfl (ih _ _ _)
    | 33 =>
      refine Ku_eq (by rw [x_take]) ?_
      exact Ku_c rfl (ih _ _ _)
    | 34 =>
      refine Ku_eq (by rw [x_take]) ?_
      exact Ku_ite (Ku_ob (Ku_c rfl (ku_fault _ _ _ _)) (fun _ h20 => Ku_c h20 (ih _ _ _))) (Ku_c rfl (ih _ _ _))
    | 35 =>
      refine Ku_eq (by rw [x_take]) ?_
      exact Ku_so rfl
    | b + 36 =>
      refine Ku_eq (by rw [x_take]) (Ku_no _)
theorem ku_isSign : ∀ (k b : Nat) (L : Nat → Int32) (σ : MS), Ku (x_isSign k b L σ) (ku σ) := by
  intro k
  induction k with
  | zero => intro b L σ; exact Ku_no _
  | succ k ih =>
    intro b L σ
    match b with
    | 0 =>
      refine Ku_eq (by rw [x_isSign]) ?_
      exact Ku_ite (Ku_ite (Ku_c rfl (ih _ _ _)) (Ku_c rfl (ih _ _ _))) (Ku_c rfl (ih _ _ _))
    | 1 =>
      refine Ku_eq (by rw [x_isSign]) ?_
      exact Ku_c rfl (ih _ _ _)
    | 2 =>
      refine Ku_eq (by rw [x_isSign]) ?_
      exact Ku_ite (Ku_so rfl) (Ku_no _)
    | b + 3 =>
      refine Ku_eq (by rw [x_isSign]) (Ku_no _)
theorem ku_open : ∀ (k b : Nat) (L : Nat → Int32) (σ : MS), Ku (x_open k b L σ) (ku σ) := by
  intro k
  induction k with
  | zero => intro b L σ; exact Ku_no _
  | succ k ih =>
    intro b L σ
    match b with
    | 0 =>
      refine Ku_eq (by rw [x_open]) ?_
      exact Ku_ite (Ku_ob (Ku_c rfl (ku_fault _ _ _ _)) (fun _ h21 => Ku_c h21 (ih _ _ _))) (Ku_c rfl (ih _ _ _))
    | 1 =>
      refine Ku_eq (by rw [x_open]) ?_
      exact Ku_so rfl
    | b + 2 =>
      refine Ku_eq (by rw [x_open]) (Ku_no _)
theorem ku_node : ∀ (k b : Nat) (L : Nat → Int32) (σ : MS), Ku (x_node k b L σ) (ku σ) := by
  intro k
  induction k with
  | zero => intro b L σ; exact Ku_no _
  | succ k ih =>
    intro b L σ
    match b with
    | 0 =>
      refine Ku_eq (by rw [x_node]) ?_
      exact Ku_c rfl (ih _ _ _)
    | 1 =>
      refine Ku_eq (by rw [x_node]) ?_
      exact Ku_ite (Ku_c rfl (ih _ _ _)) (Ku_no _)
    | 2 =>
      refine Ku_eq (by rw [x_node]) ?_
      exact Ku_ite (Ku_c rfl (ih _ _ _)) (Ku_no _)
    | 3 =>
      refine Ku_eq (by rw [x_node]) ?_
      exact Ku_ite (Ku_c rfl (ih _ _ _)) (Ku_no _)
    | 4 =>
      refine Ku_eq (by rw [x_node]) ?_
      exact Ku_ite (Ku_c rfl (ih _ _ _)) (Ku_no _)
    | 5 =>
      refine Ku_eq (by rw [x_node]) ?_
      exact Ku_ite (Ku_c rfl (ih _ _ _)) (Ku_no _)
    | 6 =>
      refine Ku_eq (by rw [x_node]) ?_
      exact Ku_ite (Ku_c rfl (ih _ _ _)) (Ku_no _)
    | 7 =>
      refine Ku_eq (by rw [x_node]) ?_
      exact Ku_so rfl
    | b + 8 =>
      refine Ku_eq (by rw [x_node]) (Ku_no _)
theorem ku_isWord : ∀ (k b : Nat) (L : Nat → Int32) (σ : MS), Ku (x_isWord k b L σ) (ku σ) := by
  intro k
  induction k with
  | zero => intro b L σ; exact Ku_no _
  | succ k ih =>
    intro b L σ
    match b with
    | 0 =>
      refine Ku_eq (by rw [x_isWord]) ?_
      exact Ku_ite (Ku_ite (Ku_c rfl (ih _ _ _)) (Ku_c rfl (ih _ _ _))) (Ku_c rfl (ih _ _ _))
    | 1 =>
      refine Ku_eq (by rw [x_isWord]) ?_
      exact Ku_c rfl (ih _ _ _)
    | 2 =>
      refine Ku_eq (by rw [x_isWord]) ?_
      exact Ku_ite (Ku_so rfl) (Ku_no _)
    | b + 3 =>
      refine Ku_eq (by rw [x_isWord]) (Ku_no _)
theorem ku_cannot : ∀ (k b : Nat) (L : Nat → Int32) (σ : MS), Ku (x_cannot k b L σ) (ku σ) := by
  intro k
  induction k with
  | zero => intro b L σ; exact Ku_no _
  | succ k ih =>
    intro b L σ
    match b with
    | 0 =>
      refine Ku_eq (by rw [x_cannot]) ?_
      exact Ku_ob (Ku_c rfl (ku_fault _ _ _ _)) (fun _ h22 => Ku_so h22)
    | b + 1 =>
      refine Ku_eq (by rw [x_cannot]) (Ku_no _)
theorem ku_want : ∀ (k b : Nat) (L : Nat → Int32) (σ : MS), Ku (x_want k b L σ) (ku σ) := by
  intro k
  induction k with
  | zero => intro b L σ; exact Ku_no _
  | succ k ih =>
    intro b L σ
    match b with
    | 0 =>
      refine Ku_eq (by rw [x_want]) ?_
      exact Ku_ite (Ku_ob (Ku_c rfl (ku_isSign _ _ _ _)) (fun _ h23 => Ku_ite (Ku_ob (Ku_c h23 (ku_cannot _ _ _ _)) (fun _ h24 => Ku_c h24 (ih _ _ _))) (Ku_c h23 (ih _ _ _)))) (Ku_c rfl (ih _ _ _))
    | 1 =>
      refine Ku_eq (by rw [x_want]) ?_
      exact Ku_ite (Ku_ob (Ku_c rfl (ku_take _ _ _ _)) (fun _ h25 => Ku_c h25 (ih _ _ _))) (Ku_c rfl (ih _ _ _))
    | 2 =>
      refine Ku_eq (by rw [x_want]) ?_
      exact Ku_so rfl
    | b + 3 =>
      refine Ku_eq (by rw [x_want]) (Ku_no _)
theorem ku_wrapped : ∀ (k b : Nat) (L : Nat → Int32) (σ : MS), Ku (x_wrapped k b L σ) (ku σ) := by
  intro k
  induction k with
  | zero => intro b L σ; exact Ku_no _
  | succ k ih =>
    intro b L σ
    match b with
    | 0 =>
      refine Ku_eq (by rw [x_wrapped]) ?_
      exact Ku_ob (Ku_c rfl (ku_node _ _ _ _)) (fun _ h26 => Ku_ite (Ku_c h26 (ih _ _ _)) (Ku_no _))
    | 1 =>
      refine Ku_eq (by rw [x_wrapped]) ?_
      exact Ku_so rfl
    | b + 2 =>
      refine Ku_eq (by rw [x_wrapped]) (Ku_no _)
theorem ku_wantWord : ∀ (k b : Nat) (L : Nat → Int32) (σ : MS), Ku (x_wantWord k b L σ) (ku σ) := by
  intro k
  induction k with
  | zero => intro b L σ; exact Ku_no _
  | succ k ih =>
    intro b L σ
    match b with
    | 0 =>
      refine Ku_eq (by rw [x_wantWord]) ?_
      exact Ku_ite (Ku_ob (Ku_c rfl (ku_isWord _ _ _ _)) (fun _ h27 => Ku_ite (Ku_ob (Ku_c h27 (ku_cannot _ _ _ _)) (fun _ h28 => Ku_c h28 (ih _ _ _))) (Ku_c h27 (ih _ _ _)))) (Ku_c rfl (ih _ _ _))
    | 1 =>
      refine Ku_eq (by rw [x_wantWord]) ?_
      exact Ku_ite (Ku_ob (Ku_c rfl (ku_take _ _ _ _)) (fun _ h29 => Ku_c h29 (ih _ _ _))) (Ku_c rfl (ih _ _ _))
    | 2 =>
      refine Ku_eq (by rw [x_wantWord]) ?_
      exact Ku_so rfl
    | b + 3 =>
      refine Ku_eq (by rw [x_wantWord]) (Ku_no _)
theorem ku_over : ∀ (k b : Nat) (L : Nat → Int32) (σ : MS), Ku (x_over k b L σ) (ku σ) := by
  intro k
  induction k with
  | zero => intro b L σ; exact Ku_no _
  | succ k ih =>
    intro b L σ
    match b with
    | 0 =>
      refine Ku_eq (by rw [x_over]) ?_
      exact Ku_ob (Ku_c rfl (ku_node _ _ _ _)) (fun _ h30 => Ku_ite (Ku_c h30 (ih _ _ _)) (Ku_no _))
    | 1 =>
      refine Ku_eq (by rw [x_over]) ?_
      exact Ku_so rfl
    | b + 2 =>
      refine Ku_eq (by rw [x_over]) (Ku_no _)
theorem ku_wantName : ∀ (k b : Nat) (L : Nat → Int32) (σ : MS), Ku (x_wantName k b L σ) (ku σ) := by
  intro k
  induction k with
  | zero => intro b L σ; exact Ku_no _
  | succ k ih =>
    intro b L σ
    match b with
    | 0 =>
      refine Ku_eq (by rw [x_wantName]) ?_
      exact Ku_ite (Ku_ite (Ku_c rfl (ih _ _ _)) (Ku_ob (Ku_c rfl (ku_cannot _ _ _ _)) (fun _ h31 => Ku_c h31 (ih _ _ _)))) (Ku_c rfl (ih _ _ _))
    | 1 =>
      refine Ku_eq (by rw [x_wantName]) ?_
      exact Ku_so rfl
    | b + 2 =>
      refine Ku_eq (by rw [x_wantName]) (Ku_no _)
theorem ku_isNamed : ∀ (k b : Nat) (L : Nat → Int32) (σ : MS), Ku (x_isNamed k b L σ) (ku σ) := by
  intro k
  induction k with
  | zero => intro b L σ; exact Ku_no _
  | succ k ih =>
    intro b L σ
    match b with
    | 0 =>
      refine Ku_eq (by rw [x_isNamed]) ?_
      exact Ku_ite (Ku_c rfl (ih _ _ _)) (Ku_so rfl)
    | 1 =>
      refine Ku_eq (by rw [x_isNamed]) ?_
      exact Ku_c rfl (ih _ _ _)
    | 2 =>
      refine Ku_eq (by rw [x_isNamed]) ?_
      exact Ku_ite (Ku_c rfl (ih _ _ _)) (Ku_ite (Ku_ite (Ku_ite (Ku_c rfl (ih _ _ _)) (Ku_so rfl)) (Ku_no _)) (Ku_no _))
    | 3 =>
      refine Ku_eq (by rw [x_isNamed]) ?_
      exact Ku_c rfl (ih _ _ _)
    | 4 =>
      refine Ku_eq (by rw [x_isNamed]) ?_
      exact Ku_so rfl
    | b + 5 =>
      refine Ku_eq (by rw [x_isNamed]) (Ku_no _)
theorem ku_newSlot : ∀ (k b : Nat) (L : Nat → Int32) (σ : MS), Ku (x_newSlot k b L σ) (ku σ) := by
  intro k
  induction k with
  | zero => intro b L σ; exact Ku_no _
  | succ k ih =>
    intro b L σ
    match b with
    | 0 =>
      refine Ku_eq (by rw [x_newSlot]) ?_
      exact Ku_ite (Ku_ite (Ku_ob (Ku_c rfl (ku_fault _ _ _ _)) (fun _ h32 => Ku_so h32)) (Ku_c rfl (ih _ _ _))) (Ku_no _)
    | 1 =>
      refine Ku_eq (by rw [x_newSlot]) ?_
      exact Ku_ite (Ku_ite (Ku_c rfl (ih _ _ _)) (Ku_no _)) (Ku_no _)
    | 2 =>
      refine Ku_eq (by rw [x_newSlot]) ?_
      exact Ku_ite (Ku_ite (Ku_c rfl (ih _ _ _)) (Ku_no _)) (Ku_no _)
    | 3 =>
      refine Ku_eq (by rw [x_newSlot]) ?_
      exact Ku_ite (Ku_so rfl) (Ku_no _)
    | b + 4 =>
      refine Ku_eq (by rw [x_newSlot]) (Ku_no _)
theorem ku_keep : ∀ (k b : Nat) (L : Nat → Int32) (σ : MS), Ku (x_keep k b L σ) (ku σ) := by
  intro k
  induction k with
  | zero => intro b L σ; exact Ku_no _
  | succ k ih =>
    intro b L σ
    match b with
    | 0 =>
      refine Ku_eq (by rw [x_keep]) ?_
      exact Ku_c rfl (ih _ _ _)
    | 1 =>
      refine Ku_eq (by rw [x_keep]) ?_
      exact Ku_ite (Ku_c rfl (ih _ _ _)) (Ku_ite (Ku_ite (Ku_c rfl (ih _ _ _)) (Ku_no _)) (Ku_no _))
    | 2 =>
      refine Ku_eq (by rw [x_keep]) ?_
      exact Ku_c rfl (ih _ _ _)
    | 3 =>
      refine Ku_eq (by rw [x_keep]) ?_
      exact Ku_c rfl (ih _ _ _)
    | 4 =>
      refine Ku_eq (by rw [x_keep]) ?_
      exact Ku_so rfl
    | b + 5 =>
      refine Ku_eq (by rw [x_keep]) (Ku_no _)
theorem ku_tellName : ∀ (k b : Nat) (L : Nat → Int32) (σ : MS), Ku (x_tellName k b L σ) (ku σ) := by
  intro k
  induction k with
  | zero => intro b L σ; exact Ku_no _
  | succ k ih =>
    intro b L σ
    match b with
    | 0 =>
      refine Ku_eq (by rw [x_tellName]) ?_
      exact Ku_ob (Ku_c rfl (ku_wantName _ _ _ _)) (fun _ h33 => Ku_ite (Ku_c h33 (ih _ _ _)) (Ku_so h33))
    | 1 =>
      refine Ku_eq (by rw [x_tellName]) ?_
      exact Ku_c rfl (ih _ _ _)
    | 2 =>
      refine Ku_eq (by rw [x_tellName]) ?_
      exact Ku_ite (Ku_c rfl (ih _ _ _)) (Ku_ite (Ku_ite (Ku_ob (Ku_c rfl (ku_isNamed _ _ _ _)) (fun _ h34 => Ku_ite (Ku_c h34 (ih _ _ _)) (Ku_ob (Ku_c h34 (ku_fault _ _ _ _)) (fun _ h35 => Ku_c h35 (ih _ _ _))))) (Ku_no _)) (Ku_no _))
    | 3 =>
      refine Ku_eq (by rw [x_tellName]) ?_
      exact Ku_c rfl (ih _ _ _)
    | 4 =>
      refine Ku_eq (by rw [x_tellName]) ?_
      exact Ku_ite (Ku_c rfl (ih _ _ _)) (Ku_c rfl (ih _ _ _))
    | 5 =>
      refine Ku_eq (by rw [x_tellName]) ?_
      exact Ku_ob (Ku_c rfl (ku_newSlot _ _ _ _)) (fun _ h36 => Ku_c h36 (ih _ _ _))
    | 6 =>
      refine Ku_eq (by rw [x_tellName]) ?_
      exact Ku_ite (Ku_c rfl (ih _ _ _)) (Ku_so rfl)
    | 7 =>
      refine Ku_eq (by rw [x_tellName]) ?_
      exact Ku_ob (Ku_c rfl (ku_keep _ _ _ _)) (fun _ h37 => Ku_ite (Ku_c h37 (ih _ _ _)) (Ku_no _))
    | 8 =>
      refine Ku_eq (by rw [x_tellName]) ?_
      exact Ku_ite (Ku_c rfl (ih _ _ _)) (Ku_no _)
    | 9 =>
      refine Ku_eq (by rw [x_tellName]) ?_
      exact Ku_ite (Ku_c rfl (ih _ _ _)) (Ku_no _)
    | 10 =>
      refine Ku_eq (by rw [x_tellName]) ?_
      exact Ku_c rfl (ih _ _ _)
    | 11 =>
      refine Ku_eq (by rw [x_tellName]) ?_
      exact Ku_ite (Ku_c rfl (ih _ _ _)) (Ku_c rfl (ih _ _ _))
    | 12 =>
      refine Ku_eq (by rw [x_tellName]) ?_
      exact Ku_c rfl (ih _ _ _)
    | 13 =>
      refine Ku_eq (by rw [x_tellName]) ?_
      exact Ku_ob (Ku_c rfl (ku_node _ _ _ _)) (fun _ h38 => Ku_ob (Ku_c h38 (ku_take _ _ _ _)) (fun _ h39 => Ku_so h39))
    | b + 14 =>
      refine Ku_eq (by rw [x_tellName]) (Ku_no _)
theorem ku_pattern : ∀ (k b : Nat) (L : Nat → Int32) (σ : MS), Ku (x_pattern k b L σ) (ku σ) := by
  intro k
  induction k with
  | zero => intro b L σ; exact Ku_no _
  | succ k ih =>
    intro b L σ
    match b with
    | 0 =>
      refine Ku_eq (by rw [x_pattern]) ?_
      exact Ku_ob (Ku_c rfl (ku_open _ _ _ _)) (fun _ h40 => Ku_ite (Ku_ob (Ku_c h40 (ku_take _ _ _ _)) (fun _ h41 => Ku_c h41 (ih _ _ _))) (Ku_c h40 (ih _ _ _)))
    | 1 =>
      refine Ku_eq (by rw [x_pattern]) ?_
      exact Ku_ob (Ku_c rfl (ku_tellName _ _ _ _)) (fun _ h42 => Ku_c h42 (ih _ _ _))
    | 2 =>
      refine Ku_eq (by rw [x_pattern]) ?_
      exact Ku_ite (Ku_ob (Ku_c rfl (ku_isSign _ _ _ _)) (fun _ h43 => Ku_ite (Ku_c h43 (ih _ _ _)) (Ku_ob (Ku_c h43 (ku_take _ _ _ _)) (fun _ h44 => Ku_ob (Ku_c h44 (ku_tellName _ _ _ _)) (fun _ h45 => Ku_ite (Ku_ite (Ku_c h45 (ih _ _ _)) (Ku_no _)) (Ku_c h45 (ih _ _ _))))))) (Ku_c rfl (ih _ _ _))
    | 3 =>
      refine Ku_eq (by rw [x_pattern]) ?_
      exact Ku_c rfl (ih _ _ _)
    | 4 =>
      refine Ku_eq (by rw [x_pattern]) ?_
      exact Ku_c rfl (ih _ _ _)
    | 5 =>
      refine Ku_eq (by rw [x_pattern]) ?_
      exact Ku_ob (Ku_c rfl (ku_want _ _ _ _)) (fun _ h46 => Ku_c h46 (ih _ _ _))
    | 6 =>
      refine Ku_eq (by rw [x_pattern]) ?_
      exact Ku_so rfl
    | b + 7 =>
      refine Ku_eq (by rw [x_pattern]) (Ku_no _)
theorem ku_see : ∀ (k b : Nat) (L : Nat → Int32) (σ : MS), Ku (x_see k b L σ) (ku σ) := by
  intro k
  induction k with
  | zero => intro b L σ; exact Ku_no _
  | succ k ih =>
    intro b L σ
    match b with
    | 0 =>
      refine Ku_eq (by rw [x_see]) ?_
      exact Ku_ite (Ku_c rfl (ih _ _ _)) (Ku_no _)
    | 1 =>
      refine Ku_eq (by rw [x_see]) ?_
      exact Ku_ite (Ku_c rfl (ih _ _ _)) (Ku_no _)
    | 2 =>
      refine Ku_eq (by rw [x_see]) ?_
      exact Ku_ite (Ku_c rfl (ih _ _ _)) (Ku_no _)
    | 3 =>
      refine Ku_eq (by rw [x_see]) ?_
      exact Ku_so rfl
    | b + 4 =>
      refine Ku_eq (by rw [x_see]) (Ku_no _)
theorem ku_find : ∀ (k b : Nat) (L : Nat → Int32) (σ : MS), Ku (x_find k b L σ) (ku σ) := by
  intro k
  induction k with
  | zero => intro b L σ; exact Ku_no _
  | succ k ih =>
    intro b L σ
    match b with
    | 0 =>
      refine Ku_eq (by rw [x_find]) ?_
      exact Ku_c rfl (ih _ _ _)
    | 1 =>
      refine Ku_eq (by rw [x_find]) ?_
      exact Ku_c rfl (ih _ _ _)
    | 2 =>
      refine Ku_eq (by rw [x_find]) ?_
      exact Ku_ite (Ku_c rfl (ih _ _ _)) (Ku_ite (Ku_ite (Ku_ob (Ku_c rfl (ku_isNamed _ _ _ _)) (fun _ h47 => Ku_ite (Ku_c h47 (ih _ _ _)) (Ku_c h47 (ih _ _ _)))) (Ku_no _)) (Ku_no _))
    | 3 =>
      refine Ku_eq (by rw [x_find]) ?_
      exact Ku_ite (Ku_c rfl (ih _ _ _)) (Ku_no _)
    | 4 =>
      refine Ku_eq (by rw [x_find]) ?_
      exact Ku_ite (Ku_c rfl (ih _ _ _)) (Ku_c rfl (ih _ _ _))
    | 5 =>
      refine Ku_eq (by rw [x_find]) ?_
      exact Ku_c rfl (ih _ _ _)
    | 6 =>
      refine Ku_eq (by rw [x_find]) ?_
      exact Ku_ite (Ku_so rfl) (Ku_no _)
    | 7 =>
      refine Ku_eq (by rw [x_find]) ?_
      exact Ku_c rfl (ih _ _ _)
    | 8 =>
      refine Ku_eq (by rw [x_find]) ?_
      exact Ku_c rfl (ih _ _ _)
    | 9 =>
      refine Ku_eq (by rw [x_find]) ?_
      exact Ku_ite (Ku_c rfl (ih _ _ _)) (Ku_ite (Ku_ite (Ku_ob (Ku_c rfl (ku_isNamed _ _ _ _)) (fun _ h48 => Ku_ite (Ku_c h48 (ih _ _ _)) (Ku_ite (Ku_c h48 (ih _ _ _)) (Ku_no _)))) (Ku_no _)) (Ku_no _))
    | 10 =>
      refine Ku_eq (by rw [x_find]) ?_
      exact Ku_ite (Ku_c rfl (ih _ _ _)) (Ku_no _)
    | 11 =>
      refine Ku_eq (by rw [x_find]) ?_
      exact Ku_so rfl
    | 12 =>
      refine Ku_eq (by rw [x_find]) ?_
      exact Ku_c rfl (ih _ _ _)
    | 13 =>
      refine Ku_eq (by rw [x_find]) ?_
      exact Ku_so rfl
    | b + 14 =>
      refine Ku_eq (by rw [x_find]) (Ku_no _)
theorem ku_operator : ∀ (k b : Nat) (L : Nat → Int32) (σ : MS), Ku (x_operator k b L σ) (ku σ) := by
  intro k
  induction k with
  | zero => intro b L σ; exact Ku_no _
  | succ k ih =>
    intro b L σ
    match b with
    | 0 =>
      refine Ku_eq (by rw [x_operator]) ?_
      exact Ku_ite (Ku_c rfl (ih _ _ _)) (Ku_c rfl (ih _ _ _))
    | 1 =>
      refine Ku_eq (by rw [x_operator]) ?_
      exact Ku_c rfl (ih _ _ _)
    | 2 =>
      refine Ku_eq (by rw [x_operator]) ?_
      exact Ku_so rfl
    | b + 3 =>
      refine Ku_eq (by rw [x_operator]) (Ku_no _)
theorem ku_isRelation : ∀ (k b : Nat) (L : Nat → Int32) (σ : MS), Ku (x_isRelation k b L σ) (ku σ) := by
  intro k
  induction k with
  | zero => intro b L σ; exact Ku_no _
  | succ k ih =>
    intro b L σ
    match b with
    | 0 =>
      refine Ku_eq (by rw [x_isRelation]) ?_
      exact Ku_ite (Ku_ite (Ku_c rfl (ih _ _ _)) (Ku_ite (Ku_c rfl (ih _ _ _)) (Ku_c rfl (ih _ _ _)))) (Ku_c rfl (ih _ _ _))
    | 1 =>
      refine Ku_eq (by rw [x_isRelation]) ?_
      exact Ku_ob (Ku_c rfl (ku_isWord _ _ _ _)) (fun _ h49 => Ku_ite (Ku_ob (Ku_c h49 (ku_isWord _ _ _ _)) (fun _ h50 => Ku_ite (Ku_ob (Ku_c h50 (ku_isWord _ _ _ _)) (fun _ h51 => Ku_ite (Ku_c h51 (ih _ _ _)) (Ku_c h51 (ih _ _ _)))) (Ku_c h50 (ih _ _ _)))) (Ku_c h49 (ih _ _ _)))
    | 2 =>
      refine Ku_eq (by rw [x_isRelation]) ?_
      exact Ku_c rfl (ih _ _ _)
    | 3 =>
      refine Ku_eq (by rw [x_isRelation]) ?_
      exact Ku_c rfl (ih _ _ _)
    | 4 =>
      refine Ku_eq (by rw [x_isRelation]) ?_
      exact Ku_ite (Ku_so rfl) (Ku_no _)
    | b + 5 =>
      refine Ku_eq (by rw [x_isRelation]) (Ku_no _)
theorem ku_named : ∀ (k b : Nat) (L : Nat → Int32) (σ : MS), Ku (x_named k b L σ) (ku σ) := by
  intro k
  induction k with
  | zero => intro b L σ; exact Ku_no _
  | succ k ih =>
    intro b L σ
    match b with
    | 0 =>
      refine Ku_eq (by rw [x_named]) ?_
      exact Ku_ob (Ku_c rfl (ku_node _ _ _ _)) (fun _ h52 => Ku_ob (Ku_c h52 (ku_take _ _ _ _)) (fun _ h53 => Ku_so h53))
    | b + 1 =>
      refine Ku_eq (by rw [x_named]) (Ku_no _)
theorem ku_s_brackets {X : Nat → Nat → Nat → (Nat → Int32) → MS → Option (Int32 × MS)} (hX : ∀ e m b L (σ : MS), Ku (X e m b L σ) (ku σ)) (k d b : Nat) (L : Nat → Int32) (σ : MS) : Ku (s_brackets X k d b L σ) (ku σ) := by
  match b with
  | 0 => exact Ku_ob (Ku_c rfl (ku_isSign _ _ _ _)) (fun _ h54 => Ku_ite (Ku_c h54 (hX _ _ _ _ _)) (Ku_c h54 (hX _ _ _ _ _)))
  | 1 => exact Ku_c rfl (hX _ _ _ _ _)
  | 2 => exact Ku_ite (Ku_c rfl (hX _ _ _ _ _)) (Ku_c rfl (hX _ _ _ _ _))
  | 3 => exact Ku_c rfl (hX _ _ _ _ _)
  | 4 => exact Ku_ob (Ku_c rfl (ku_open _ _ _ _)) (fun _ h55 => Ku_ite (Ku_ob (Ku_c h55 (ku_take _ _ _ _)) (fun _ h56 => Ku_c h56 (hX _ _ _ _ _))) (Ku_c h55 (hX _ _ _ _ _)))
  | 5 => exact Ku_ite (Ku_c rfl (hX _ _ _ _ _)) (Ku_so rfl)
  | 6 => exact Ku_ob (Ku_c rfl (ku_isSign _ _ _ _)) (fun _ h57 => Ku_ite (Ku_c h57 (hX _ _ _ _ _)) (Ku_ite (Ku_c h57 (hX _ _ _ _ _)) (Ku_c h57 (hX _ _ _ _ _))))
  | 7 => exact Ku_c rfl (hX _ _ _ _ _)
  | 8 => exact Ku_ob (Ku_c rfl (ku_node _ _ _ _)) (fun _ h58 => Ku_c h58 (hX _ _ _ _ _))
  | 9 => exact Ku_ob (Ku_c rfl (ku_isWord _ _ _ _)) (fun _ h59 => Ku_ite (Ku_c h59 (hX _ _ _ _ _)) (Ku_ob (Ku_c h59 (ku_take _ _ _ _)) (fun _ h60 => Ku_od (fun _ => Ku_ob (Ku_c h60 (hX _ _ _ _ _)) (fun _ h61 => Ku_ite (Ku_ob (Ku_c h61 (ku_isSign _ _ _ _)) (fun _ h62 => Ku_ite (Ku_c h62 (hX _ _ _ _ _)) (Ku_ob (Ku_c h62 (ku_take _ _ _ _)) (fun _ h63 => Ku_od (fun _ => Ku_ob (Ku_c h63 (hX _ _ _ _ _)) (fun _ h64 => Ku_c h64 (hX _ _ _ _ _))))))) (Ku_c h61 (hX _ _ _ _ _)))))))
  | 10 => exact Ku_ob (Ku_c rfl (ku_want _ _ _ _)) (fun _ h65 => Ku_od (fun _ => Ku_ob (Ku_c h65 (hX _ _ _ _ _)) (fun _ h66 => Ku_ob (Ku_c h66 (ku_wrapped _ _ _ _)) (fun _ h67 => Ku_c h67 (hX _ _ _ _ _)))))
  | 11 => exact Ku_od (fun _ => Ku_ob (Ku_c rfl (hX _ _ _ _ _)) (fun _ h68 => Ku_c h68 (hX _ _ _ _ _)))
  | 12 => exact Ku_ob (Ku_c rfl (ku_want _ _ _ _)) (fun _ h69 => Ku_c h69 (hX _ _ _ _ _))
  | 13 => exact Ku_so rfl
  | b + 14 => exact Ku_no _
theorem ku_s_choice {X : Nat → Nat → Nat → (Nat → Int32) → MS → Option (Int32 × MS)} (hX : ∀ e m b L (σ : MS), Ku (X e m b L σ) (ku σ)) (k d b : Nat) (L : Nat → Int32) (σ : MS) : Ku (s_choice X k d b L σ) (ku σ) := by
  match b with
  | 0 => exact Ku_ob (Ku_c rfl (ku_open _ _ _ _)) (fun _ h70 => Ku_ite (Ku_ob (Ku_c h70 (ku_take _ _ _ _)) (fun _ h71 => Ku_c h71 (hX _ _ _ _ _))) (Ku_c h70 (hX _ _ _ _ _)))
  | 1 => exact Ku_od (fun _ => Ku_ob (Ku_c rfl (hX _ _ _ _ _)) (fun _ h72 => Ku_ob (Ku_c h72 (ku_wantWord _ _ _ _)) (fun _ h73 => Ku_od (fun _ => Ku_ob (Ku_c h73 (hX _ _ _ _ _)) (fun _ h74 => Ku_ob (Ku_c h74 (ku_node _ _ _ _)) (fun _ h75 => Ku_c h75 (hX _ _ _ _ _)))))))
  | 2 => exact Ku_ite (Ku_ob (Ku_c rfl (ku_isWord _ _ _ _)) (fun _ h76 => Ku_ite (Ku_c h76 (hX _ _ _ _ _)) (Ku_ob (Ku_c h76 (ku_take _ _ _ _)) (fun _ h77 => Ku_od (fun _ => Ku_ob (Ku_c h77 (hX _ _ _ _ _)) (fun _ h78 => Ku_ob (Ku_c h78 (ku_wantWord _ _ _ _)) (fun _ h79 => Ku_od (fun _ => Ku_ob (Ku_c h79 (hX _ _ _ _ _)) (fun _ h80 => Ku_ob (Ku_c h80 (ku_node _ _ _ _)) (fun _ h81 => Ku_ite (Ku_c h81 (hX _ _ _ _ _)) (Ku_no _))))))))))) (Ku_c rfl (hX _ _ _ _ _))
  | 3 => exact Ku_ite (Ku_c rfl (hX _ _ _ _ _)) (Ku_no _)
  | 4 => exact Ku_ob (Ku_c rfl (ku_wantWord _ _ _ _)) (fun _ h82 => Ku_od (fun _ => Ku_ob (Ku_c h82 (hX _ _ _ _ _)) (fun _ h83 => Ku_ob (Ku_c h83 (ku_node _ _ _ _)) (fun _ h84 => Ku_ite (Ku_c h84 (hX _ _ _ _ _)) (Ku_no _)))))
  | 5 => exact Ku_ob (Ku_c rfl (ku_wantWord _ _ _ _)) (fun _ h85 => Ku_c h85 (hX _ _ _ _ _))
  | 6 => exact Ku_ob (Ku_c rfl (ku_node _ _ _ _)) (fun _ h86 => Ku_so h86)
  | b + 7 => exact Ku_no _
theorem ku_s_conjunction {X : Nat → Nat → Nat → (Nat → Int32) → MS → Option (Int32 × MS)} (hX : ∀ e m b L (σ : MS), Ku (X e m b L σ) (ku σ)) (k d b : Nat) (L : Nat → Int32) (σ : MS) : Ku (s_conjunction X k d b L σ) (ku σ) := by
  match b with
  | 0 => exact Ku_od (fun _ => Ku_ob (Ku_c rfl (hX _ _ _ _ _)) (fun _ h87 => Ku_c h87 (hX _ _ _ _ _)))
  | 1 => exact Ku_ite (Ku_ob (Ku_c rfl (ku_isWord _ _ _ _)) (fun _ h88 => Ku_ite (Ku_c h88 (hX _ _ _ _ _)) (Ku_ob (Ku_c h88 (ku_take _ _ _ _)) (fun _ h89 => Ku_od (fun _ => Ku_ob (Ku_c h89 (hX _ _ _ _ _)) (fun _ h90 => Ku_ob (Ku_c h90 (ku_over _ _ _ _)) (fun _ h91 => Ku_c h91 (hX _ _ _ _ _)))))))) (Ku_c rfl (hX _ _ _ _ _))
  | 2 => exact Ku_so rfl
  | b + 3 => exact Ku_no _
theorem ku_s_exp {X : Nat → Nat → Nat → (Nat → Int32) → MS → Option (Int32 × MS)} (hX : ∀ e m b L (σ : MS), Ku (X e m b L σ) (ku σ)) (k d b : Nat) (L : Nat → Int32) (σ : MS) : Ku (s_exp X k d b L σ) (ku σ) := by
  match b with
  | 0 => exact Ku_od (fun _ => Ku_ob (Ku_c rfl (hX _ _ _ _ _)) (fun _ h92 => Ku_c h92 (hX _ _ _ _ _)))
  | 1 => exact Ku_ite (Ku_ob (Ku_c rfl (ku_isWord _ _ _ _)) (fun _ h93 => Ku_ite (Ku_c h93 (hX _ _ _ _ _)) (Ku_ob (Ku_c h93 (ku_take _ _ _ _)) (fun _ h94 => Ku_od (fun _ => Ku_ob (Ku_c h94 (hX _ _ _ _ _)) (fun _ h95 => Ku_ob (Ku_c h95 (ku_over _ _ _ _)) (fun _ h96 => Ku_c h96 (hX _ _ _ _ _)))))))) (Ku_c rfl (hX _ _ _ _ _))
  | 2 => exact Ku_so rfl
  | b + 3 => exact Ku_no _
theorem ku_s_iters {X : Nat → Nat → Nat → (Nat → Int32) → MS → Option (Int32 × MS)} (hX : ∀ e m b L (σ : MS), Ku (X e m b L σ) (ku σ)) (k d b : Nat) (L : Nat → Int32) (σ : MS) : Ku (s_iters X k d b L σ) (ku σ) := by
  match b with
  | 0 => exact Ku_c rfl (hX _ _ _ _ _)
  | 1 => exact Ku_ite (Ku_c rfl (hX _ _ _ _ _)) (Ku_ite (Ku_ob (Ku_c rfl (ku_isSign _ _ _ _)) (fun _ h97 => Ku_ite (Ku_c h97 (hX _ _ _ _ _)) (Ku_c h97 (hX _ _ _ _ _)))) (Ku_c rfl (hX _ _ _ _ _)))
  | 2 => exact Ku_c rfl (hX _ _ _ _ _)
  | 3 => exact Ku_ite (Ku_ob (Ku_c rfl (ku_pattern _ _ _ _)) (fun _ h98 => Ku_c h98 (hX _ _ _ _ _))) (Ku_c rfl (hX _ _ _ _ _))
  | 4 => exact Ku_ob (Ku_c rfl (ku_tellName _ _ _ _)) (fun _ h99 => Ku_c h99 (hX _ _ _ _ _))
  | 5 => exact Ku_ob (Ku_c rfl (ku_wantWord _ _ _ _)) (fun _ h100 => Ku_od (fun _ => Ku_ob (Ku_c h100 (hX _ _ _ _ _)) (fun _ h101 => Ku_ob (Ku_c h101 (ku_node _ _ _ _)) (fun _ h102 => Ku_ite (Ku_c h102 (hX _ _ _ _ _)) (Ku_c h102 (hX _ _ _ _ _))))))
  | 6 => exact Ku_ite (Ku_c rfl (hX _ _ _ _ _)) (Ku_no _)
  | 7 => exact Ku_c rfl (hX _ _ _ _ _)
  | 8 => exact Ku_ite (Ku_c rfl (hX _ _ _ _ _)) (Ku_ite (Ku_ite (Ku_ite (Ku_ite (Ku_ob (Ku_c rfl (ku_see _ _ _ _)) (fun _ h103 => Ku_c h103 (hX _ _ _ _ _))) (Ku_no _)) (Ku_no _)) (Ku_no _)) (Ku_c rfl (hX _ _ _ _ _)))
  | 9 => exact Ku_ite (Ku_ob (Ku_c rfl (ku_isSign _ _ _ _)) (fun _ h104 => Ku_ite (Ku_c h104 (hX _ _ _ _ _)) (Ku_c h104 (hX _ _ _ _ _)))) (Ku_c rfl (hX _ _ _ _ _))
  | 10 => exact Ku_c rfl (hX _ _ _ _ _)
  | 11 => exact Ku_ite (Ku_c rfl (hX _ _ _ _ _)) (Ku_ob (Ku_c rfl (ku_take _ _ _ _)) (fun _ h105 => Ku_c h105 (hX _ _ _ _ _)))
  | 12 => exact Ku_c rfl (hX _ _ _ _ _)
  | 13 => exact Ku_c rfl (hX _ _ _ _ _)
  | 14 => exact Ku_so rfl
  | b + 15 => exact Ku_no _
theorem ku_s_listed {X : Nat → Nat → Nat → (Nat → Int32) → MS → Option (Int32 × MS)} (hX : ∀ e m b L (σ : MS), Ku (X e m b L σ) (ku σ)) (k d b : Nat) (L : Nat → Int32) (σ : MS) : Ku (s_listed X k d b L σ) (ku σ) := by
  match b with
  | 0 => exact Ku_od (fun _ => Ku_ob (Ku_c rfl (hX _ _ _ _ _)) (fun _ h106 => Ku_ite (Ku_ob (Ku_c h106 (ku_isSign _ _ _ _)) (fun _ h107 => Ku_ite (Ku_c h107 (hX _ _ _ _ _)) (Ku_ob (Ku_c h107 (ku_take _ _ _ _)) (fun _ h108 => Ku_od (fun _ => Ku_ob (Ku_c h108 (hX _ _ _ _ _)) (fun _ h109 => Ku_ob (Ku_c h109 (ku_wrapped _ _ _ _)) (fun _ h110 => Ku_so h110))))))) (Ku_c h106 (hX _ _ _ _ _))))
  | 1 => exact Ku_c rfl (hX _ _ _ _ _)
  | 2 => exact Ku_ite (Ku_ob (Ku_c rfl (ku_isSign _ _ _ _)) (fun _ h111 => Ku_ite (Ku_c h111 (hX _ _ _ _ _)) (Ku_ob (Ku_c h111 (ku_take _ _ _ _)) (fun _ h112 => Ku_od (fun _ => Ku_ob (Ku_c h112 (hX _ _ _ _ _)) (fun _ h113 => Ku_ite (Ku_ite (Ku_ob (Ku_c h113 (ku_isSign _ _ _ _)) (fun _ h114 => Ku_ite (Ku_c h114 (hX _ _ _ _ _)) (Ku_ob (Ku_c h114 (ku_take _ _ _ _)) (fun _ h115 => Ku_od (fun _ => Ku_ob (Ku_c h115 (hX _ _ _ _ _)) (fun _ h116 => Ku_ob (Ku_c h116 (ku_wrapped _ _ _ _)) (fun _ h117 => Ku_so h117))))))) (Ku_c h113 (hX _ _ _ _ _))) (Ku_c h113 (hX _ _ _ _ _)))))))) (Ku_c rfl (hX _ _ _ _ _))
  | 3 => exact Ku_ite (Ku_c rfl (hX _ _ _ _ _)) (Ku_no _)
  | 4 => exact Ku_c rfl (hX _ _ _ _ _)
  | 5 => exact Ku_ite (Ku_c rfl (hX _ _ _ _ _)) (Ku_c rfl (hX _ _ _ _ _))
  | 6 => exact Ku_c rfl (hX _ _ _ _ _)
  | 7 => exact Ku_ob (Ku_c rfl (ku_node _ _ _ _)) (fun _ h118 => Ku_so h118)
  | b + 8 => exact Ku_no _
theorem ku_s_name {X : Nat → Nat → Nat → (Nat → Int32) → MS → Option (Int32 × MS)} (hX : ∀ e m b L (σ : MS), Ku (X e m b L σ) (ku σ)) (k d b : Nat) (L : Nat → Int32) (σ : MS) : Ku (s_name X k d b L σ) (ku σ) := by
  match b with
  | 0 => exact Ku_ob (Ku_c rfl (ku_find _ _ _ _)) (fun _ h119 => Ku_ob (Ku_c h119 (ku_take _ _ _ _)) (fun _ h120 => Ku_ite (Ku_ite (Ku_c h120 (hX _ _ _ _ _)) (Ku_ite (Ku_c h120 (hX _ _ _ _ _)) (Ku_ite (Ku_ob (Ku_c h120 (ku_isSign _ _ _ _)) (fun _ h121 => Ku_ite (Ku_c h121 (hX _ _ _ _ _)) (Ku_c h121 (hX _ _ _ _ _)))) (Ku_c h120 (hX _ _ _ _ _))))) (Ku_c h120 (hX _ _ _ _ _))))
  | 1 => exact Ku_ob (Ku_c rfl (ku_fault _ _ _ _)) (fun _ h122 => Ku_c h122 (hX _ _ _ _ _))
  | 2 => exact Ku_ite (Ku_c rfl (hX _ _ _ _ _)) (Ku_so rfl)
  | 3 => exact Ku_ite (Ku_ite (Ku_c rfl (hX _ _ _ _ _)) (Ku_c rfl (hX _ _ _ _ _))) (Ku_c rfl (hX _ _ _ _ _))
  | 4 => exact Ku_c rfl (hX _ _ _ _ _)
  | 5 => exact Ku_ob (Ku_c rfl (ku_node _ _ _ _)) (fun _ h123 => Ku_so h123)
  | 6 => exact Ku_ob (Ku_c rfl (ku_open _ _ _ _)) (fun _ h124 => Ku_ite (Ku_ob (Ku_c h124 (ku_take _ _ _ _)) (fun _ h125 => Ku_c h125 (hX _ _ _ _ _))) (Ku_c h124 (hX _ _ _ _ _)))
  | 7 => exact Ku_c rfl (hX _ _ _ _ _)
  | 8 => exact Ku_ite (Ku_ite (Ku_c rfl (hX _ _ _ _ _)) (Ku_ob (Ku_c rfl (ku_isSign _ _ _ _)) (fun _ h126 => Ku_ite (Ku_c h126 (hX _ _ _ _ _)) (Ku_c h126 (hX _ _ _ _ _))))) (Ku_c rfl (hX _ _ _ _ _))
  | 9 => exact Ku_ite (Ku_c rfl (hX _ _ _ _ _)) (Ku_ob (Ku_c rfl (ku_isSign _ _ _ _)) (fun _ h127 => Ku_ite (Ku_c h127 (hX _ _ _ _ _)) (Ku_c h127 (hX _ _ _ _ _))))
  | 10 => exact Ku_ite (Ku_c rfl (hX _ _ _ _ _)) (Ku_ob (Ku_c rfl (ku_take _ _ _ _)) (fun _ h128 => Ku_c h128 (hX _ _ _ _ _)))
  | 11 => exact Ku_od (fun _ => Ku_ob (Ku_c rfl (hX _ _ _ _ _)) (fun _ h129 => Ku_ite (Ku_c h129 (hX _ _ _ _ _)) (Ku_c h129 (hX _ _ _ _ _))))
  | 12 => exact Ku_c rfl (hX _ _ _ _ _)
  | 13 => exact Ku_ite (Ku_c rfl (hX _ _ _ _ _)) (Ku_ite (Ku_c rfl (hX _ _ _ _ _)) (Ku_no _))
  | 14 => exact Ku_c rfl (hX _ _ _ _ _)
  | 15 => exact Ku_ite (Ku_ob (Ku_c rfl (ku_isSign _ _ _ _)) (fun _ h130 => Ku_ite (Ku_ob (Ku_c h130 (ku_cannot _ _ _ _)) (fun _ h131 => Ku_c h131 (hX _ _ _ _ _))) (Ku_c h130 (hX _ _ _ _ _)))) (Ku_c rfl (hX _ _ _ _ _))
  | 16 => exact Ku_ite (Ku_ite (Ku_ite (Ku_c rfl (hX _ _ _ _ _)) (Ku_ob (Ku_c rfl (ku_fault _ _ _ _)) (fun _ h132 => Ku_c h132 (hX _ _ _ _ _)))) (Ku_no _)) (Ku_c rfl (hX _ _ _ _ _))
  | 17 => exact Ku_ite (Ku_ob (Ku_c rfl (ku_take _ _ _ _)) (fun _ h133 => Ku_c h133 (hX _ _ _ _ _))) (Ku_c rfl (hX _ _ _ _ _))
  | 18 => exact Ku_c rfl (hX _ _ _ _ _)
  | 19 => exact Ku_ob (Ku_c rfl (ku_wrapped _ _ _ _)) (fun _ h134 => Ku_so h134)
  | b + 20 => exact Ku_no _
theorem ku_s_negation {X : Nat → Nat → Nat → (Nat → Int32) → MS → Option (Int32 × MS)} (hX : ∀ e m b L (σ : MS), Ku (X e m b L σ) (ku σ)) (k d b : Nat) (L : Nat → Int32) (σ : MS) : Ku (s_negation X k d b L σ) (ku σ) := by
  match b with
  | 0 => exact Ku_ite (Ku_ob (Ku_c rfl (ku_isWord _ _ _ _)) (fun _ h135 => Ku_ite (Ku_c h135 (hX _ _ _ _ _)) (Ku_c h135 (hX _ _ _ _ _)))) (Ku_c rfl (hX _ _ _ _ _))
  | 1 => exact Ku_od (fun _ => Ku_ob (Ku_c rfl (hX _ _ _ _ _)) (fun _ h136 => Ku_so h136))
  | 2 => exact Ku_ob (Ku_c rfl (ku_open _ _ _ _)) (fun _ h137 => Ku_ite (Ku_ob (Ku_c h137 (ku_take _ _ _ _)) (fun _ h138 => Ku_c h138 (hX _ _ _ _ _))) (Ku_c h137 (hX _ _ _ _ _)))
  | 3 => exact Ku_od (fun _ => Ku_ob (Ku_c rfl (hX _ _ _ _ _)) (fun _ h139 => Ku_c h139 (hX _ _ _ _ _)))
  | 4 => exact Ku_ob (Ku_c rfl (ku_node _ _ _ _)) (fun _ h140 => Ku_so h140)
  | b + 5 => exact Ku_no _
theorem ku_s_parts {X : Nat → Nat → Nat → (Nat → Int32) → MS → Option (Int32 × MS)} (hX : ∀ e m b L (σ : MS), Ku (X e m b L σ) (ku σ)) (k d b : Nat) (L : Nat → Int32) (σ : MS) : Ku (s_parts X k d b L σ) (ku σ) := by
  match b with
  | 0 => exact Ku_c rfl (hX _ _ _ _ _)
  | 1 => exact Ku_ite (Ku_ob (Ku_c rfl (ku_isSign _ _ _ _)) (fun _ h141 => Ku_ite (Ku_ob (Ku_c h141 (ku_isSign _ _ _ _)) (fun _ h142 => Ku_ite (Ku_c h142 (hX _ _ _ _ _)) (Ku_c h142 (hX _ _ _ _ _)))) (Ku_c h141 (hX _ _ _ _ _)))) (Ku_c rfl (hX _ _ _ _ _))
  | 2 => exact Ku_ob (Ku_c rfl (ku_isSign _ _ _ _)) (fun _ h143 => Ku_ob (Ku_c h143 (ku_open _ _ _ _)) (fun _ h144 => Ku_ite (Ku_ob (Ku_c h144 (ku_take _ _ _ _)) (fun _ h145 => Ku_c h145 (hX _ _ _ _ _))) (Ku_c h144 (hX _ _ _ _ _))))
  | 3 => exact Ku_od (fun _ => Ku_ob (Ku_c rfl (hX _ _ _ _ _)) (fun _ h146 => Ku_ite (Ku_ite (Ku_ob (Ku_c h146 (ku_isSign _ _ _ _)) (fun _ h147 => Ku_ite (Ku_c h147 (hX _ _ _ _ _)) (Ku_ob (Ku_c h147 (ku_take _ _ _ _)) (fun _ h148 => Ku_od (fun _ => Ku_ob (Ku_c h148 (hX _ _ _ _ _)) (fun _ h149 => Ku_ob (Ku_c h149 (ku_over _ _ _ _)) (fun _ h150 => Ku_ite (Ku_c h150 (hX _ _ _ _ _)) (Ku_no _)))))))) (Ku_c h146 (hX _ _ _ _ _))) (Ku_c h146 (hX _ _ _ _ _))))
  | 4 => exact Ku_ite (Ku_c rfl (hX _ _ _ _ _)) (Ku_c rfl (hX _ _ _ _ _))
  | 5 => exact Ku_c rfl (hX _ _ _ _ _)
  | 6 => exact Ku_ob (Ku_c rfl (ku_over _ _ _ _)) (fun _ h151 => Ku_c h151 (hX _ _ _ _ _))
  | 7 => exact Ku_ite (Ku_c rfl (hX _ _ _ _ _)) (Ku_c rfl (hX _ _ _ _ _))
  | 8 => exact Ku_c rfl (hX _ _ _ _ _)
  | 9 => exact Ku_ob (Ku_c rfl (ku_want _ _ _ _)) (fun _ h152 => Ku_c h152 (hX _ _ _ _ _))
  | 10 => exact Ku_so rfl
  | b + 11 => exact Ku_no _
theorem ku_s_power {X : Nat → Nat → Nat → (Nat → Int32) → MS → Option (Int32 × MS)} (hX : ∀ e m b L (σ : MS), Ku (X e m b L σ) (ku σ)) (k d b : Nat) (L : Nat → Int32) (σ : MS) : Ku (s_power X k d b L σ) (ku σ) := by
  match b with
  | 0 => exact Ku_od (fun _ => Ku_ob (Ku_c rfl (hX _ _ _ _ _)) (fun _ h153 => Ku_ite (Ku_ob (Ku_c h153 (ku_isSign _ _ _ _)) (fun _ h154 => Ku_ite (Ku_c h154 (hX _ _ _ _ _)) (Ku_c h154 (hX _ _ _ _ _)))) (Ku_c h153 (hX _ _ _ _ _))))
  | 1 => exact Ku_so rfl
  | 2 => exact Ku_ob (Ku_c rfl (ku_open _ _ _ _)) (fun _ h155 => Ku_ite (Ku_ob (Ku_c h155 (ku_take _ _ _ _)) (fun _ h156 => Ku_c h156 (hX _ _ _ _ _))) (Ku_c h155 (hX _ _ _ _ _)))
  | 3 => exact Ku_od (fun _ => Ku_ob (Ku_c rfl (hX _ _ _ _ _)) (fun _ h157 => Ku_c h157 (hX _ _ _ _ _)))
  | 4 => exact Ku_ob (Ku_c rfl (ku_over _ _ _ _)) (fun _ h158 => Ku_so h158)
  | b + 5 => exact Ku_no _
theorem ku_s_prefix {X : Nat → Nat → Nat → (Nat → Int32) → MS → Option (Int32 × MS)} (hX : ∀ e m b L (σ : MS), Ku (X e m b L σ) (ku σ)) (k d b : Nat) (L : Nat → Int32) (σ : MS) : Ku (s_prefix X k d b L σ) (ku σ) := by
  match b with
  | 0 => exact Ku_ite (Ku_c rfl (hX _ _ _ _ _)) (Ku_so rfl)
  | 1 => exact Ku_ob (Ku_c rfl (ku_isSign _ _ _ _)) (fun _ h159 => Ku_ite (Ku_ob (Ku_c h159 (ku_isSign _ _ _ _)) (fun _ h160 => Ku_ite (Ku_c h160 (hX _ _ _ _ _)) (Ku_c h160 (hX _ _ _ _ _)))) (Ku_c h159 (hX _ _ _ _ _)))
  | 2 => exact Ku_ob (Ku_c rfl (ku_isSign _ _ _ _)) (fun _ h161 => Ku_ite (Ku_c h161 (hX _ _ _ _ _)) (Ku_c h161 (hX _ _ _ _ _)))
  | 3 => exact Ku_c rfl (hX _ _ _ _ _)
  | 4 => exact Ku_ob (Ku_c rfl (ku_open _ _ _ _)) (fun _ h162 => Ku_ite (Ku_ob (Ku_c h162 (ku_take _ _ _ _)) (fun _ h163 => Ku_c h163 (hX _ _ _ _ _))) (Ku_c h162 (hX _ _ _ _ _)))
  | 5 => exact Ku_od (fun _ => Ku_ob (Ku_c rfl (hX _ _ _ _ _)) (fun _ h164 => Ku_c h164 (hX _ _ _ _ _)))
  | 6 => exact Ku_ob (Ku_c rfl (ku_node _ _ _ _)) (fun _ h165 => Ku_so h165)
  | 7 => exact Ku_ob (Ku_c rfl (ku_isSign _ _ _ _)) (fun _ h166 => Ku_ite (Ku_ob (Ku_c h166 (ku_isSign _ _ _ _)) (fun _ h167 => Ku_ite (Ku_ob (Ku_c h167 (ku_isWord _ _ _ _)) (fun _ h168 => Ku_ite (Ku_ob (Ku_c h168 (ku_isWord _ _ _ _)) (fun _ h169 => Ku_ite (Ku_c h169 (hX _ _ _ _ _)) (Ku_c h169 (hX _ _ _ _ _)))) (Ku_c h168 (hX _ _ _ _ _)))) (Ku_c h167 (hX _ _ _ _ _)))) (Ku_c h166 (hX _ _ _ _ _)))
  | 8 => exact Ku_ob (Ku_c rfl (ku_operator _ _ _ _)) (fun _ h170 => Ku_ob (Ku_c h170 (ku_open _ _ _ _)) (fun _ h171 => Ku_ite (Ku_ob (Ku_c h171 (ku_take _ _ _ _)) (fun _ h172 => Ku_c h172 (hX _ _ _ _ _))) (Ku_c h171 (hX _ _ _ _ _))))
  | 9 => exact Ku_ob (Ku_c rfl (ku_want _ _ _ _)) (fun _ h173 => Ku_od (fun _ => Ku_ob (Ku_c h173 (hX _ _ _ _ _)) (fun _ h174 => Ku_c h174 (hX _ _ _ _ _))))
  | 10 => exact Ku_ob (Ku_c rfl (ku_node _ _ _ _)) (fun _ h175 => Ku_so h175)
  | 11 => exact Ku_od (fun _ => Ku_ob (Ku_c rfl (hX _ _ _ _ _)) (fun _ h176 => Ku_od (fun _ => Ku_ob (Ku_c h176 (hX _ _ _ _ _)) (fun _ h177 => Ku_so h177))))
  | b + 12 => exact Ku_no _
theorem ku_s_primary {X : Nat → Nat → Nat → (Nat → Int32) → MS → Option (Int32 × MS)} (hX : ∀ e m b L (σ : MS), Ku (X e m b L σ) (ku σ)) (k d b : Nat) (L : Nat → Int32) (σ : MS) : Ku (s_primary X k d b L σ) (ku σ) := by
  match b with
  | 0 => exact Ku_ite (Ku_c rfl (hX _ _ _ _ _)) (Ku_so rfl)
  | 1 => exact Ku_ite (Ku_c rfl (hX _ _ _ _ _)) (Ku_ite (Ku_c rfl (hX _ _ _ _ _)) (Ku_c rfl (hX _ _ _ _ _)))
  | 2 => exact Ku_ite (Ku_c rfl (hX _ _ _ _ _)) (Ku_c rfl (hX _ _ _ _ _))
  | 3 => exact Ku_c rfl (hX _ _ _ _ _)
  | 4 => exact Ku_ite (Ku_c rfl (hX _ _ _ _ _)) (Ku_c rfl (hX _ _ _ _ _))
  | 5 => exact Ku_c rfl (hX _ _ _ _ _)
  | 6 => exact Ku_ob (Ku_c rfl (ku_keep _ _ _ _)) (fun _ h178 => Ku_ob (Ku_c h178 (ku_node _ _ _ _)) (fun _ h179 => Ku_ob (Ku_c h179 (ku_take _ _ _ _)) (fun _ h180 => Ku_so h180)))
  | 7 => exact Ku_ite (Ku_od (fun _ => Ku_ob (Ku_c rfl (hX _ _ _ _ _)) (fun _ h181 => Ku_so h181))) (Ku_c rfl (hX _ _ _ _ _))
  | 8 => exact Ku_ob (Ku_c rfl (ku_isSign _ _ _ _)) (fun _ h182 => Ku_ite (Ku_c h182 (hX _ _ _ _ _)) (Ku_ob (Ku_c h182 (ku_open _ _ _ _)) (fun _ h183 => Ku_ite (Ku_ob (Ku_c h183 (ku_take _ _ _ _)) (fun _ h184 => Ku_c h184 (hX _ _ _ _ _))) (Ku_c h183 (hX _ _ _ _ _)))))
  | 9 => exact Ku_od (fun _ => Ku_ob (Ku_c rfl (hX _ _ _ _ _)) (fun _ h185 => Ku_ob (Ku_c h185 (ku_want _ _ _ _)) (fun _ h186 => Ku_c h186 (hX _ _ _ _ _))))
  | 10 => exact Ku_ob (Ku_c rfl (ku_over _ _ _ _)) (fun _ h187 => Ku_so h187)
  | 11 => exact Ku_ob (Ku_c rfl (ku_isSign _ _ _ _)) (fun _ h188 => Ku_ite (Ku_ob (Ku_c h188 (ku_isSign _ _ _ _)) (fun _ h189 => Ku_ite (Ku_c h189 (hX _ _ _ _ _)) (Ku_c h189 (hX _ _ _ _ _)))) (Ku_c h188 (hX _ _ _ _ _)))
  | 12 => exact Ku_od (fun _ => Ku_ob (Ku_c rfl (hX _ _ _ _ _)) (fun _ h190 => Ku_so h190))
  | 13 => exact Ku_ite (Ku_od (fun _ => Ku_ob (Ku_c rfl (hX _ _ _ _ _)) (fun _ h191 => Ku_so h191))) (Ku_c rfl (hX _ _ _ _ _))
  | 14 => exact Ku_ob (Ku_c rfl (ku_cannot _ _ _ _)) (fun _ h192 => Ku_so h192)
  | b + 15 => exact Ku_no _
theorem ku_s_quantified {X : Nat → Nat → Nat → (Nat → Int32) → MS → Option (Int32 × MS)} (hX : ∀ e m b L (σ : MS), Ku (X e m b L σ) (ku σ)) (k d b : Nat) (L : Nat → Int32) (σ : MS) : Ku (s_quantified X k d b L σ) (ku σ) := by
  match b with
  | 0 => exact Ku_ob (Ku_c rfl (ku_open _ _ _ _)) (fun _ h193 => Ku_ite (Ku_ob (Ku_c h193 (ku_take _ _ _ _)) (fun _ h194 => Ku_c h194 (hX _ _ _ _ _))) (Ku_c h193 (hX _ _ _ _ _)))
  | 1 => exact Ku_od (fun _ => Ku_ob (Ku_c rfl (hX _ _ _ _ _)) (fun _ h195 => Ku_ob (Ku_c h195 (ku_want _ _ _ _)) (fun _ h196 => Ku_od (fun _ => Ku_ob (Ku_c h196 (hX _ _ _ _ _)) (fun _ h197 => Ku_c h197 (hX _ _ _ _ _))))))
  | 2 => exact Ku_c rfl (hX _ _ _ _ _)
  | 3 => exact Ku_ob (Ku_c rfl (ku_node _ _ _ _)) (fun _ h198 => Ku_so h198)
  | b + 4 => exact Ku_no _
theorem ku_s_relation {X : Nat → Nat → Nat → (Nat → Int32) → MS → Option (Int32 × MS)} (hX : ∀ e m b L (σ : MS), Ku (X e m b L σ) (ku σ)) (k d b : Nat) (L : Nat → Int32) (σ : MS) : Ku (s_relation X k d b L σ) (ku σ) := by
  match b with
  | 0 => exact Ku_od (fun _ => Ku_ob (Ku_c rfl (hX _ _ _ _ _)) (fun _ h199 => Ku_ite (Ku_ob (Ku_c h199 (ku_isRelation _ _ _ _)) (fun _ h200 => Ku_ite (Ku_c h200 (hX _ _ _ _ _)) (Ku_ob (Ku_c h200 (ku_operator _ _ _ _)) (fun _ h201 => Ku_ob (Ku_c h201 (ku_take _ _ _ _)) (fun _ h202 => Ku_od (fun _ => Ku_ob (Ku_c h202 (hX _ _ _ _ _)) (fun _ h203 => Ku_ob (Ku_c h203 (ku_over _ _ _ _)) (fun _ h204 => Ku_c h204 (hX _ _ _ _ _))))))))) (Ku_c h199 (hX _ _ _ _ _))))
  | 1 => exact Ku_so rfl
  | b + 2 => exact Ku_no _
theorem ku_s_sum {X : Nat → Nat → Nat → (Nat → Int32) → MS → Option (Int32 × MS)} (hX : ∀ e m b L (σ : MS), Ku (X e m b L σ) (ku σ)) (k d b : Nat) (L : Nat → Int32) (σ : MS) : Ku (s_sum X k d b L σ) (ku σ) := by
  match b with
  | 0 => exact Ku_od (fun _ => Ku_ob (Ku_c rfl (hX _ _ _ _ _)) (fun _ h205 => Ku_c h205 (hX _ _ _ _ _)))
  | 1 => exact Ku_ite (Ku_ob (Ku_c rfl (ku_isSign _ _ _ _)) (fun _ h206 => Ku_ite (Ku_ob (Ku_c h206 (ku_isSign _ _ _ _)) (fun _ h207 => Ku_ite (Ku_c h207 (hX _ _ _ _ _)) (Ku_c h207 (hX _ _ _ _ _)))) (Ku_c h206 (hX _ _ _ _ _)))) (Ku_c rfl (hX _ _ _ _ _))
  | 2 => exact Ku_ob (Ku_c rfl (ku_operator _ _ _ _)) (fun _ h208 => Ku_ob (Ku_c h208 (ku_take _ _ _ _)) (fun _ h209 => Ku_od (fun _ => Ku_ob (Ku_c h209 (hX _ _ _ _ _)) (fun _ h210 => Ku_ob (Ku_c h210 (ku_over _ _ _ _)) (fun _ h211 => Ku_c h211 (hX _ _ _ _ _))))))
  | 3 => exact Ku_so rfl
  | b + 4 => exact Ku_no _
theorem ku_s_term {X : Nat → Nat → Nat → (Nat → Int32) → MS → Option (Int32 × MS)} (hX : ∀ e m b L (σ : MS), Ku (X e m b L σ) (ku σ)) (k d b : Nat) (L : Nat → Int32) (σ : MS) : Ku (s_term X k d b L σ) (ku σ) := by
  match b with
  | 0 => exact Ku_od (fun _ => Ku_ob (Ku_c rfl (hX _ _ _ _ _)) (fun _ h212 => Ku_c h212 (hX _ _ _ _ _)))
  | 1 => exact Ku_ite (Ku_ob (Ku_c rfl (ku_isSign _ _ _ _)) (fun _ h213 => Ku_ite (Ku_ob (Ku_c h213 (ku_isWord _ _ _ _)) (fun _ h214 => Ku_ite (Ku_ob (Ku_c h214 (ku_isWord _ _ _ _)) (fun _ h215 => Ku_ite (Ku_c h215 (hX _ _ _ _ _)) (Ku_c h215 (hX _ _ _ _ _)))) (Ku_c h214 (hX _ _ _ _ _)))) (Ku_c h213 (hX _ _ _ _ _)))) (Ku_c rfl (hX _ _ _ _ _))
  | 2 => exact Ku_ob (Ku_c rfl (ku_operator _ _ _ _)) (fun _ h216 => Ku_ob (Ku_c h216 (ku_take _ _ _ _)) (fun _ h217 => Ku_od (fun _ => Ku_ob (Ku_c h217 (hX _ _ _ _ _)) (fun _ h218 => Ku_ob (Ku_c h218 (ku_over _ _ _ _)) (fun _ h219 => Ku_c h219 (hX _ _ _ _ _))))))
  | 3 => exact Ku_so rfl
  | b + 4 => exact Ku_no _
theorem ku_s_wordly {X : Nat → Nat → Nat → (Nat → Int32) → MS → Option (Int32 × MS)} (hX : ∀ e m b L (σ : MS), Ku (X e m b L σ) (ku σ)) (k d b : Nat) (L : Nat → Int32) (σ : MS) : Ku (s_wordly X k d b L σ) (ku σ) := by
  match b with
  | 0 => exact Ku_ite (Ku_c rfl (hX _ _ _ _ _)) (Ku_ite (Ku_c rfl (hX _ _ _ _ _)) (Ku_ite (Ku_c rfl (hX _ _ _ _ _)) (Ku_ite (Ku_c rfl (hX _ _ _ _ _)) (Ku_ite (Ku_c rfl (hX _ _ _ _ _)) (Ku_ite (Ku_c rfl (hX _ _ _ _ _)) (Ku_c rfl (hX _ _ _ _ _)))))))
  | 1 => exact Ku_ob (Ku_c rfl (ku_named _ _ _ _)) (fun _ h220 => Ku_so h220)
  | 2 => exact Ku_ob (Ku_c rfl (ku_named _ _ _ _)) (fun _ h221 => Ku_so h221)
  | 3 => exact Ku_ob (Ku_c rfl (ku_named _ _ _ _)) (fun _ h222 => Ku_so h222)
  | 4 => exact Ku_ite (Ku_c rfl (hX _ _ _ _ _)) (Ku_c rfl (hX _ _ _ _ _))
  | 5 => exact Ku_c rfl (hX _ _ _ _ _)
  | 6 => exact Ku_od (fun _ => Ku_ob (Ku_c rfl (hX _ _ _ _ _)) (fun _ h223 => Ku_so h223))
  | 7 => exact Ku_od (fun _ => Ku_ob (Ku_c rfl (hX _ _ _ _ _)) (fun _ h224 => Ku_so h224))
  | 8 => exact Ku_ite (Ku_ite (Ku_c rfl (hX _ _ _ _ _)) (Ku_ob (Ku_c rfl (ku_named _ _ _ _)) (fun _ h225 => Ku_so h225))) (Ku_c rfl (hX _ _ _ _ _))
  | 9 => exact Ku_ite (Ku_c rfl (hX _ _ _ _ _)) (Ku_ite (Ku_c rfl (hX _ _ _ _ _)) (Ku_c rfl (hX _ _ _ _ _)))
  | 10 => exact Ku_ite (Ku_c rfl (hX _ _ _ _ _)) (Ku_ite (Ku_ite (Ku_c rfl (hX _ _ _ _ _)) (Ku_c rfl (hX _ _ _ _ _))) (Ku_c rfl (hX _ _ _ _ _)))
  | 11 => exact Ku_c rfl (hX _ _ _ _ _)
  | 12 => exact Ku_c rfl (hX _ _ _ _ _)
  | 13 => exact Ku_ite (Ku_ob (Ku_c rfl (ku_cannot _ _ _ _)) (fun _ h226 => Ku_so h226)) (Ku_c rfl (hX _ _ _ _ _))
  | 14 => exact Ku_ob (Ku_c rfl (ku_take _ _ _ _)) (fun _ h227 => Ku_ite (Ku_ob (Ku_c h227 (ku_isSign _ _ _ _)) (fun _ h228 => Ku_ite (Ku_ob (Ku_c h228 (ku_cannot _ _ _ _)) (fun _ h229 => Ku_c h229 (hX _ _ _ _ _))) (Ku_c h228 (hX _ _ _ _ _)))) (Ku_c h227 (hX _ _ _ _ _)))
  | 15 => exact Ku_ite (Ku_ob (Ku_c rfl (ku_open _ _ _ _)) (fun _ h230 => Ku_c h230 (hX _ _ _ _ _))) (Ku_c rfl (hX _ _ _ _ _))
  | 16 => exact Ku_ite (Ku_ob (Ku_c rfl (ku_take _ _ _ _)) (fun _ h231 => Ku_c h231 (hX _ _ _ _ _))) (Ku_c rfl (hX _ _ _ _ _))
  | 17 => exact Ku_od (fun _ => Ku_ob (Ku_c rfl (hX _ _ _ _ _)) (fun _ h232 => Ku_ob (Ku_c h232 (ku_want _ _ _ _)) (fun _ h233 => Ku_c h233 (hX _ _ _ _ _))))
  | 18 => exact Ku_ob (Ku_c rfl (ku_node _ _ _ _)) (fun _ h234 => Ku_so h234)
  | b + 19 => exact Ku_no _
theorem ku_GE : ∀ (k d m b : Nat) (L : Nat → Int32) (σ : MS), Ku (x_GE k d m b L σ) (ku σ) := by
  intro k
  induction k with
  | zero => intro d m b L σ; exact Ku_no _
  | succ k ih =>
    intro d m b L σ
    match m with
    | 0 => exact ku_s_brackets ih k d b L σ
    | 1 => exact ku_s_choice ih k d b L σ
    | 2 => exact ku_s_conjunction ih k d b L σ
    | 3 => exact ku_s_exp ih k d b L σ
    | 4 => exact ku_s_iters ih k d b L σ
    | 5 => exact ku_s_listed ih k d b L σ
    | 6 => exact ku_s_name ih k d b L σ
    | 7 => exact ku_s_negation ih k d b L σ
    | 8 => exact ku_s_parts ih k d b L σ
    | 9 => exact ku_s_power ih k d b L σ
    | 10 => exact ku_s_prefix ih k d b L σ
    | 11 => exact ku_s_primary ih k d b L σ
    | 12 => exact ku_s_quantified ih k d b L σ
    | 13 => exact ku_s_relation ih k d b L σ
    | 14 => exact ku_s_sum ih k d b L σ
    | 15 => exact ku_s_term ih k d b L σ
    | 16 => exact ku_s_wordly ih k d b L σ
    | m + 17 => exact Ku_no _
theorem ku_exp (k b : Nat) (L : Nat → Int32) (σ : MS) : Ku (x_exp k b L σ) (ku σ) := ku_GE k 320 3 b L σ
theorem ku_readExp : ∀ (k b : Nat) (L : Nat → Int32) (σ : MS), Ku (x_readExp k b L σ) (ku σ) := by
  intro k
  induction k with
  | zero => intro b L σ; exact Ku_no _
  | succ k ih =>
    intro b L σ
    match b with
    | 0 =>
      refine Ku_eq (by rw [x_readExp]) ?_
      exact Ku_ob (Ku_c rfl (ku_beginText _ _ _ _)) (fun _ h235 => Ku_c h235 (ih _ _ _))
    | 1 =>
      refine Ku_eq (by rw [x_readExp]) ?_
      exact Ku_ite (Ku_c rfl (ih _ _ _)) (Ku_no _)
    | 2 =>
      refine Ku_eq (by rw [x_readExp]) ?_
      exact Ku_ite (Ku_c rfl (ih _ _ _)) (Ku_no _)
    | 3 =>
      refine Ku_eq (by rw [x_readExp]) ?_
      exact Ku_c rfl (ih _ _ _)
    | 4 =>
      refine Ku_eq (by rw [x_readExp]) ?_
      exact Ku_ob (Ku_c rfl (ku_take _ _ _ _)) (fun _ h236 => Ku_ob (Ku_c h236 (ku_exp _ _ _ _)) (fun _ h237 => Ku_ite (Ku_ite (Ku_c h237 (ih _ _ _)) (Ku_ob (Ku_c h237 (ku_cannot _ _ _ _)) (fun _ h238 => Ku_c h238 (ih _ _ _)))) (Ku_c h237 (ih _ _ _))))
    | 5 =>
      refine Ku_eq (by rw [x_readExp]) ?_
      exact Ku_c rfl (ih _ _ _)
    | 6 =>
      refine Ku_eq (by rw [x_readExp]) ?_
      exact Ku_so rfl
    | b + 7 =>
      refine Ku_eq (by rw [x_readExp]) (Ku_no _)
theorem ku_copied : ∀ (k b : Nat) (L : Nat → Int32) (σ : MS), Ku (x_copied k b L σ) (ku σ) := by
  intro k
  induction k with
  | zero => intro b L σ; exact Ku_no _
  | succ k ih =>
    intro b L σ
    match b with
    | 0 =>
      refine Ku_eq (by rw [x_copied]) ?_
      exact Ku_ite (Ku_c rfl (ih _ _ _)) (Ku_so rfl)
    | 1 =>
      refine Ku_eq (by rw [x_copied]) ?_
      exact Ku_ite (Ku_ite (Ku_ite (Ku_so rfl) (Ku_no _)) (Ku_c rfl (ih _ _ _))) (Ku_no _)
    | 2 =>
      refine Ku_eq (by rw [x_copied]) ?_
      exact Ku_ite (Ku_c rfl (ih _ _ _)) (Ku_no _)
    | 3 =>
      refine Ku_eq (by rw [x_copied]) ?_
      exact Ku_c rfl (ih _ _ _)
    | 4 =>
      refine Ku_eq (by rw [x_copied]) ?_
      exact Ku_ite (Ku_c rfl (ih _ _ _)) (Ku_ite (Ku_ite (Ku_c rfl (ih _ _ _)) (Ku_no _)) (Ku_no _))
    | 5 =>
      refine Ku_eq (by rw [x_copied]) ?_
      exact Ku_c rfl (ih _ _ _)
    | 6 =>
      refine Ku_eq (by rw [x_copied]) ?_
      exact Ku_ite (Ku_c rfl (ih _ _ _)) (Ku_no _)
    | 7 =>
      refine Ku_eq (by rw [x_copied]) ?_
      exact Ku_ite (Ku_c rfl (ih _ _ _)) (Ku_no _)
    | 8 =>
      refine Ku_eq (by rw [x_copied]) ?_
      exact Ku_so rfl
    | b + 9 =>
      refine Ku_eq (by rw [x_copied]) (Ku_no _)
theorem ku_copyRow__29 : ∀ (k b : Nat) (L : Nat → Int32) (σ : MS), Ku (x_copyRow__29 k b L σ) (ku σ) := by
  intro k
  induction k with
  | zero => intro b L σ; exact Ku_no _
  | succ k ih =>
    intro b L σ
    match b with
    | 0 =>
      refine Ku_eq (by rw [x_copyRow__29]) ?_
      exact Ku_c rfl (ih _ _ _)
    | 1 =>
      refine Ku_eq (by rw [x_copyRow__29]) ?_
      exact Ku_ite (Ku_c rfl (ih _ _ _)) (Ku_ite (Ku_ob (Ku_c rfl (ku_copied _ _ _ _)) (fun _ h239 => Ku_ite (Ku_c h239 (ih _ _ _)) (Ku_no _))) (Ku_no _))
    | 2 =>
      refine Ku_eq (by rw [x_copyRow__29]) ?_
      exact Ku_c rfl (ih _ _ _)
    | 3 =>
      refine Ku_eq (by rw [x_copyRow__29]) ?_
      exact Ku_so rfl
    | b + 4 =>
      refine Ku_eq (by rw [x_copyRow__29]) (Ku_no _)
theorem ku_copyRow__30 : ∀ (k b : Nat) (L : Nat → Int32) (σ : MS), Ku (x_copyRow__30 k b L σ) (ku σ) := by
  intro k
  induction k with
  | zero => intro b L σ; exact Ku_no _
  | succ k ih =>
    intro b L σ
    match b with
    | 0 =>
      refine Ku_eq (by rw [x_copyRow__30]) ?_
      exact Ku_c rfl (ih _ _ _)
    | 1 =>
      refine Ku_eq (by rw [x_copyRow__30]) ?_
      exact Ku_ite (Ku_c rfl (ih _ _ _)) (Ku_ite (Ku_ob (Ku_c rfl (ku_copied _ _ _ _)) (fun _ h240 => Ku_ite (Ku_c h240 (ih _ _ _)) (Ku_no _))) (Ku_no _))
    | 2 =>
      refine Ku_eq (by rw [x_copyRow__30]) ?_
      exact Ku_c rfl (ih _ _ _)
    | 3 =>
      refine Ku_eq (by rw [x_copyRow__30]) ?_
      exact Ku_so rfl
    | b + 4 =>
      refine Ku_eq (by rw [x_copyRow__30]) (Ku_no _)
theorem ku_copyState__30 : ∀ (k b : Nat) (L : Nat → Int32) (σ : MS), Ku (x_copyState__30 k b L σ) (ku σ) := by
  intro k
  induction k with
  | zero => intro b L σ; exact Ku_no _
  | succ k ih =>
    intro b L σ
    match b with
    | 0 =>
      refine Ku_eq (by rw [x_copyState__30]) ?_
      exact Ku_ob (Ku_c rfl (ku_copyRow__30 _ _ _ _)) (fun _ h241 => Ku_ite (Ku_ob (Ku_c h241 (ku_copyRow__30 _ _ _ _)) (fun _ h242 => Ku_ite (Ku_ob (Ku_c h242 (ku_copyRow__30 _ _ _ _)) (fun _ h243 => Ku_so h243)) (Ku_no _))) (Ku_no _))
    | b + 1 =>
      refine Ku_eq (by rw [x_copyState__30]) (Ku_no _)
theorem ku_copyRow__31 : ∀ (k b : Nat) (L : Nat → Int32) (σ : MS), Ku (x_copyRow__31 k b L σ) (ku σ) := by
  intro k
  induction k with
  | zero => intro b L σ; exact Ku_no _
  | succ k ih =>
    intro b L σ
    match b with
    | 0 =>
      refine Ku_eq (by rw [x_copyRow__31]) ?_
      exact Ku_c rfl (ih _ _ _)
    | 1 =>
      refine Ku_eq (by rw [x_copyRow__31]) ?_
      exact Ku_ite (Ku_c rfl (ih _ _ _)) (Ku_ite (Ku_ob (Ku_c rfl (ku_copied _ _ _ _)) (fun _ h244 => Ku_ite (Ku_c h244 (ih _ _ _)) (Ku_no _))) (Ku_no _))
    | 2 =>
      refine Ku_eq (by rw [x_copyRow__31]) ?_
      exact Ku_c rfl (ih _ _ _)
    | 3 =>
      refine Ku_eq (by rw [x_copyRow__31]) ?_
      exact Ku_so rfl
    | b + 4 =>
      refine Ku_eq (by rw [x_copyRow__31]) (Ku_no _)
theorem ku_copyState__31 : ∀ (k b : Nat) (L : Nat → Int32) (σ : MS), Ku (x_copyState__31 k b L σ) (ku σ) := by
  intro k
  induction k with
  | zero => intro b L σ; exact Ku_no _
  | succ k ih =>
    intro b L σ
    match b with
    | 0 =>
      refine Ku_eq (by rw [x_copyState__31]) ?_
      exact Ku_ob (Ku_c rfl (ku_copyRow__31 _ _ _ _)) (fun _ h245 => Ku_ite (Ku_ob (Ku_c h245 (ku_copyRow__31 _ _ _ _)) (fun _ h246 => Ku_ite (Ku_ob (Ku_c h246 (ku_copyRow__31 _ _ _ _)) (fun _ h247 => Ku_so h247)) (Ku_no _))) (Ku_no _))
    | b + 1 =>
      refine Ku_eq (by rw [x_copyState__31]) (Ku_no _)
theorem ku_copyRow__33 : ∀ (k b : Nat) (L : Nat → Int32) (σ : MS), Ku (x_copyRow__33 k b L σ) (ku σ) := by
  intro k
  induction k with
  | zero => intro b L σ; exact Ku_no _
  | succ k ih =>
    intro b L σ
    match b with
    | 0 =>
      refine Ku_eq (by rw [x_copyRow__33]) ?_
      exact Ku_c rfl (ih _ _ _)
    | 1 =>
      refine Ku_eq (by rw [x_copyRow__33]) ?_
      exact Ku_ite (Ku_c rfl (ih _ _ _)) (Ku_ite (Ku_ob (Ku_c rfl (ku_copied _ _ _ _)) (fun _ h248 => Ku_ite (Ku_c h248 (ih _ _ _)) (Ku_no _))) (Ku_no _))
    | 2 =>
      refine Ku_eq (by rw [x_copyRow__33]) ?_
      exact Ku_c rfl (ih _ _ _)
    | 3 =>
      refine Ku_eq (by rw [x_copyRow__33]) ?_
      exact Ku_so rfl
    | b + 4 =>
      refine Ku_eq (by rw [x_copyRow__33]) (Ku_no _)
theorem ku_copyRow__34 : ∀ (k b : Nat) (L : Nat → Int32) (σ : MS), Ku (x_copyRow__34 k b L σ) (ku σ) := by
  intro k
  induction k with
  | zero => intro b L σ; exact Ku_no _
  | succ k ih =>
    intro b L σ
    match b with
    | 0 =>
      refine Ku_eq (by rw [x_copyRow__34]) ?_
      exact Ku_c rfl (ih _ _ _)
    | 1 =>
      refine Ku_eq (by rw [x_copyRow__34]) ?_
      exact Ku_ite (Ku_c rfl (ih _ _ _)) (Ku_ite (Ku_ob (Ku_c rfl (ku_copied _ _ _ _)) (fun _ h249 => Ku_ite (Ku_c h249 (ih _ _ _)) (Ku_no _))) (Ku_no _))
    | 2 =>
      refine Ku_eq (by rw [x_copyRow__34]) ?_
      exact Ku_c rfl (ih _ _ _)
    | 3 =>
      refine Ku_eq (by rw [x_copyRow__34]) ?_
      exact Ku_so rfl
    | b + 4 =>
      refine Ku_eq (by rw [x_copyRow__34]) (Ku_no _)
theorem ku_copyRow__36 : ∀ (k b : Nat) (L : Nat → Int32) (σ : MS), Ku (x_copyRow__36 k b L σ) (ku σ) := by
  intro k
  induction k with
  | zero => intro b L σ; exact Ku_no _
  | succ k ih =>
    intro b L σ
    match b with
    | 0 =>
      refine Ku_eq (by rw [x_copyRow__36]) ?_
      exact Ku_c rfl (ih _ _ _)
    | 1 =>
      refine Ku_eq (by rw [x_copyRow__36]) ?_
      exact Ku_ite (Ku_c rfl (ih _ _ _)) (Ku_ite (Ku_ob (Ku_c rfl (ku_copied _ _ _ _)) (fun _ h250 => Ku_ite (Ku_c h250 (ih _ _ _)) (Ku_no _))) (Ku_no _))
    | 2 =>
      refine Ku_eq (by rw [x_copyRow__36]) ?_
      exact Ku_c rfl (ih _ _ _)
    | 3 =>
      refine Ku_eq (by rw [x_copyRow__36]) ?_
      exact Ku_so rfl
    | b + 4 =>
      refine Ku_eq (by rw [x_copyRow__36]) (Ku_no _)
theorem ku_copyRow__37 : ∀ (k b : Nat) (L : Nat → Int32) (σ : MS), Ku (x_copyRow__37 k b L σ) (ku σ) := by
  intro k
  induction k with
  | zero => intro b L σ; exact Ku_no _
  | succ k ih =>
    intro b L σ
    match b with
    | 0 =>
      refine Ku_eq (by rw [x_copyRow__37]) ?_
      exact Ku_c rfl (ih _ _ _)
    | 1 =>
      refine Ku_eq (by rw [x_copyRow__37]) ?_
      exact Ku_ite (Ku_c rfl (ih _ _ _)) (Ku_ite (Ku_ob (Ku_c rfl (ku_copied _ _ _ _)) (fun _ h251 => Ku_ite (Ku_c h251 (ih _ _ _)) (Ku_no _))) (Ku_no _))
    | 2 =>
      refine Ku_eq (by rw [x_copyRow__37]) ?_
      exact Ku_c rfl (ih _ _ _)
    | 3 =>
      refine Ku_eq (by rw [x_copyRow__37]) ?_
      exact Ku_so rfl
    | b + 4 =>
      refine Ku_eq (by rw [x_copyRow__37]) (Ku_no _)
theorem ku_copyRow__38 : ∀ (k b : Nat) (L : Nat → Int32) (σ : MS), Ku (x_copyRow__38 k b L σ) (ku σ) := by
  intro k
  induction k with
  | zero => intro b L σ; exact Ku_no _
  | succ k ih =>
    intro b L σ
    match b with
    | 0 =>
      refine Ku_eq (by rw [x_copyRow__38]) ?_
      exact Ku_c rfl (ih _ _ _)
    | 1 =>
      refine Ku_eq (by rw [x_copyRow__38]) ?_
      exact Ku_ite (Ku_c rfl (ih _ _ _)) (Ku_ite (Ku_ob (Ku_c rfl (ku_copied _ _ _ _)) (fun _ h252 => Ku_ite (Ku_c h252 (ih _ _ _)) (Ku_no _))) (Ku_no _))
    | 2 =>
      refine Ku_eq (by rw [x_copyRow__38]) ?_
      exact Ku_c rfl (ih _ _ _)
    | 3 =>
      refine Ku_eq (by rw [x_copyRow__38]) ?_
      exact Ku_so rfl
    | b + 4 =>
      refine Ku_eq (by rw [x_copyRow__38]) (Ku_no _)
theorem ku_copyRow__40 : ∀ (k b : Nat) (L : Nat → Int32) (σ : MS), Ku (x_copyRow__40 k b L σ) (ku σ) := by
  intro k
  induction k with
  | zero => intro b L σ; exact Ku_no _
  | succ k ih =>
    intro b L σ
    match b with
    | 0 =>
      refine Ku_eq (by rw [x_copyRow__40]) ?_
      exact Ku_c rfl (ih _ _ _)
    | 1 =>
      refine Ku_eq (by rw [x_copyRow__40]) ?_
      exact Ku_ite (Ku_c rfl (ih _ _ _)) (Ku_ite (Ku_ob (Ku_c rfl (ku_copied _ _ _ _)) (fun _ h253 => Ku_ite (Ku_c h253 (ih _ _ _)) (Ku_no _))) (Ku_no _))
    | 2 =>
      refine Ku_eq (by rw [x_copyRow__40]) ?_
      exact Ku_c rfl (ih _ _ _)
    | 3 =>
      refine Ku_eq (by rw [x_copyRow__40]) ?_
      exact Ku_so rfl
    | b + 4 =>
      refine Ku_eq (by rw [x_copyRow__40]) (Ku_no _)
theorem ku_copyRow__28 : ∀ (k b : Nat) (L : Nat → Int32) (σ : MS), Ku (x_copyRow__28 k b L σ) (ku σ) := by
  intro k
  induction k with
  | zero => intro b L σ; exact Ku_no _
  | succ k ih =>
    intro b L σ
    match b with
    | 0 =>
      refine Ku_eq (by rw [x_copyRow__28]) ?_
      exact Ku_c rfl (ih _ _ _)
    | 1 =>
      refine Ku_eq (by rw [x_copyRow__28]) ?_
      exact Ku_ite (Ku_c rfl (ih _ _ _)) (Ku_ite (Ku_ob (Ku_c rfl (ku_copied _ _ _ _)) (fun _ h254 => Ku_ite (Ku_c h254 (ih _ _ _)) (Ku_no _))) (Ku_no _))
    | 2 =>
      refine Ku_eq (by rw [x_copyRow__28]) ?_
      exact Ku_c rfl (ih _ _ _)
    | 3 =>
      refine Ku_eq (by rw [x_copyRow__28]) ?_
      exact Ku_so rfl
    | b + 4 =>
      refine Ku_eq (by rw [x_copyRow__28]) (Ku_no _)
theorem ku_sweep : ∀ (k b : Nat) (L : Nat → Int32) (σ : MS), Ku (x_sweep k b L σ) (ku σ) := by
  intro k
  induction k with
  | zero => intro b L σ; exact Ku_no _
  | succ k ih =>
    intro b L σ
    match b with
    | 0 =>
      refine Ku_eq (by rw [x_sweep]) ?_
      exact Ku_ite (Ku_c rfl (ih _ _ _)) (Ku_so rfl)
    | 1 =>
      refine Ku_eq (by rw [x_sweep]) ?_
      exact Ku_ite (Ku_c rfl (ih _ _ _)) (Ku_c rfl (ih _ _ _))
    | 2 =>
      refine Ku_eq (by rw [x_sweep]) ?_
      exact Ku_c rfl (ih _ _ _)
    | 3 =>
      refine Ku_eq (by rw [x_sweep]) ?_
      exact Ku_c rfl (ih _ _ _)
    | 4 =>
      refine Ku_eq (by rw [x_sweep]) ?_
      exact Ku_c rfl (ih _ _ _)
    | 5 =>
      refine Ku_eq (by rw [x_sweep]) ?_
      exact Ku_ob (Ku_c rfl (ku_copyRow__29 _ _ _ _)) (fun _ h255 => Ku_ob (Ku_c h255 (ku_copyState__30 _ _ _ _)) (fun _ h256 => Ku_c h256 (ih _ _ _)))
    | 6 =>
      refine Ku_eq (by rw [x_sweep]) ?_
      exact Ku_ite (Ku_c rfl (ih _ _ _)) (Ku_ob (Ku_c rfl (ku_copyState__31 _ _ _ _)) (fun _ h257 => Ku_c h257 (ih _ _ _)))
    | 7 =>
      refine Ku_eq (by rw [x_sweep]) ?_
      exact Ku_ob (Ku_c rfl (ku_copyRow__33 _ _ _ _)) (fun _ h258 => Ku_ob (Ku_c h258 (ku_copyRow__34 _ _ _ _)) (fun _ h259 => Ku_ob (Ku_c h259 (ku_copyRow__36 _ _ _ _)) (fun _ h260 => Ku_ob (Ku_c h260 (ku_copyRow__37 _ _ _ _)) (fun _ h261 => Ku_ob (Ku_c h261 (ku_copyRow__38 _ _ _ _)) (fun _ h262 => Ku_ob (Ku_c h262 (ku_copyRow__40 _ _ _ _)) (fun _ h263 => Ku_c h263 (ih _ _ _)))))))
    | 8 =>
      refine Ku_eq (by rw [x_sweep]) ?_
      exact Ku_ite (Ku_c rfl (ih _ _ _)) (Ku_ite (Ku_ite (Ku_ite (Ku_c rfl (ih _ _ _)) (Ku_ite (Ku_c rfl (ih _ _ _)) (Ku_c rfl (ih _ _ _)))) (Ku_no _)) (Ku_no _))
    | 9 =>
      refine Ku_eq (by rw [x_sweep]) ?_
      exact Ku_ob (Ku_c rfl (ku_copyRow__28 _ _ _ _)) (fun _ h264 => Ku_c h264 (ih _ _ _))
    | 10 =>
      refine Ku_eq (by rw [x_sweep]) ?_
      exact Ku_c rfl (ih _ _ _)
    | 11 =>
      refine Ku_eq (by rw [x_sweep]) ?_
      exact Ku_so rfl
    | b + 12 =>
      refine Ku_eq (by rw [x_sweep]) (Ku_no _)
theorem ku_fail : ∀ (k b : Nat) (L : Nat → Int32) (σ : MS), Ku (x_fail k b L σ) (ku σ) := by
  intro k
  induction k with
  | zero => intro b L σ; exact Ku_no _
  | succ k ih =>
    intro b L σ
    match b with
    | 0 =>
      refine Ku_eq (by rw [x_fail]) ?_
      exact Ku_ite (Ku_c rfl (ih _ _ _)) (Ku_c rfl (ih _ _ _))
    | 1 =>
      refine Ku_eq (by rw [x_fail]) ?_
      exact Ku_c rfl (ih _ _ _)
    | 2 =>
      refine Ku_eq (by rw [x_fail]) ?_
      exact Ku_so rfl
    | b + 3 =>
      refine Ku_eq (by rw [x_fail]) (Ku_no _)
theorem ku_make : ∀ (k b : Nat) (L : Nat → Int32) (σ : MS), Ku (x_make k b L σ) (ku σ) := by
  intro k
  induction k with
  | zero => intro b L σ; exact Ku_no _
  | succ k ih =>
    intro b L σ
    match b with
    | 0 =>
      refine Ku_eq (by rw [x_make]) ?_
      exact Ku_ite (Ku_c rfl (ih _ _ _)) (Ku_ob (Ku_c rfl (ku_fail _ _ _ _)) (fun _ h265 => Ku_so h265))
    | 1 =>
      refine Ku_eq (by rw [x_make]) ?_
      exact Ku_c rfl (ih _ _ _)
    | 2 =>
      refine Ku_eq (by rw [x_make]) ?_
      exact Ku_ite (Ku_c rfl (ih _ _ _)) (Ku_no _)
    | 3 =>
      refine Ku_eq (by rw [x_make]) ?_
      exact Ku_ite (Ku_c rfl (ih _ _ _)) (Ku_no _)
    | 4 =>
      refine Ku_eq (by rw [x_make]) ?_
      exact Ku_ite (Ku_c rfl (ih _ _ _)) (Ku_no _)
    | 5 =>
      refine Ku_eq (by rw [x_make]) ?_
      exact Ku_ite (Ku_c rfl (ih _ _ _)) (Ku_no _)
    | 6 =>
      refine Ku_eq (by rw [x_make]) ?_
      exact Ku_so rfl
    | b + 7 =>
      refine Ku_eq (by rw [x_make]) (Ku_no _)
theorem ku_wholeOf : ∀ (k b : Nat) (L : Nat → Int32) (σ : MS), Ku (x_wholeOf k b L σ) (ku σ) := by
  intro k
  induction k with
  | zero => intro b L σ; exact Ku_no _
  | succ k ih =>
    intro b L σ
    match b with
    | 0 =>
      refine Ku_eq (by rw [x_wholeOf]) ?_
      exact Ku_ite (Ku_c rfl (ih _ _ _)) (Ku_ite (Ku_ite (Ku_c rfl (ih _ _ _)) (Ku_c rfl (ih _ _ _))) (Ku_no _))
    | 1 =>
      refine Ku_eq (by rw [x_wholeOf]) ?_
      exact Ku_ite (Ku_c rfl (ih _ _ _)) (Ku_ob (Ku_c rfl (ku_fail _ _ _ _)) (fun _ h266 => Ku_so h266))
    | 2 =>
      refine Ku_eq (by rw [x_wholeOf]) ?_
      exact Ku_ob (Ku_c rfl (ku_make _ _ _ _)) (fun _ h267 => Ku_ite (Ku_c h267 (ih _ _ _)) (Ku_so h267))
    | 3 =>
      refine Ku_eq (by rw [x_wholeOf]) ?_
      exact Ku_ite (Ku_c rfl (ih _ _ _)) (Ku_c rfl (ih _ _ _))
    | 4 =>
      refine Ku_eq (by rw [x_wholeOf]) ?_
      exact Ku_c rfl (ih _ _ _)
    | 5 =>
      refine Ku_eq (by rw [x_wholeOf]) ?_
      exact Ku_ite (Ku_c rfl (ih _ _ _)) (Ku_no _)
    | 6 =>
      refine Ku_eq (by rw [x_wholeOf]) ?_
      exact Ku_c rfl (ih _ _ _)
    | 7 =>
      refine Ku_eq (by rw [x_wholeOf]) ?_
      exact Ku_ite (Ku_c rfl (ih _ _ _)) (Ku_ite (Ku_ite (Ku_c rfl (ih _ _ _)) (Ku_no _)) (Ku_no _))
    | 8 =>
      refine Ku_eq (by rw [x_wholeOf]) ?_
      exact Ku_c rfl (ih _ _ _)
    | 9 =>
      refine Ku_eq (by rw [x_wholeOf]) ?_
      exact Ku_ite (Ku_no _) (Ku_ite (Ku_c rfl (ih _ _ _)) (Ku_no _))
    | 10 =>
      refine Ku_eq (by rw [x_wholeOf]) ?_
      exact Ku_so rfl
    | b + 11 =>
      refine Ku_eq (by rw [x_wholeOf]) (Ku_no _)
theorem ku_literal : ∀ (k b : Nat) (L : Nat → Int32) (σ : MS), Ku (x_literal k b L σ) (ku σ) := by
  intro k
  induction k with
  | zero => intro b L σ; exact Ku_no _
  | succ k ih =>
    intro b L σ
    match b with
    | 0 =>
      refine Ku_eq (by rw [x_literal]) ?_
      exact Ku_c rfl (ih _ _ _)
    | 1 =>
      refine Ku_eq (by rw [x_literal]) ?_
      exact Ku_c rfl (ih _ _ _)
    | 2 =>
      refine Ku_eq (by rw [x_literal]) ?_
      exact Ku_ite (Ku_c rfl (ih _ _ _)) (Ku_ite (Ku_c rfl (ih _ _ _)) (Ku_no _))
    | 3 =>
      refine Ku_eq (by rw [x_literal]) ?_
      exact Ku_ite (Ku_c rfl (ih _ _ _)) (Ku_ite (Ku_ite (Ku_c rfl (ih _ _ _)) (Ku_no _)) (Ku_no _))
    | 4 =>
      refine Ku_eq (by rw [x_literal]) ?_
      exact Ku_c rfl (ih _ _ _)
    | 5 =>
      refine Ku_eq (by rw [x_literal]) ?_
      exact Ku_ite (Ku_c rfl (ih _ _ _)) (Ku_ite (Ku_c rfl (ih _ _ _)) (Ku_no _))
    | 6 =>
      refine Ku_eq (by rw [x_literal]) ?_
      exact Ku_c rfl (ih _ _ _)
    | 7 =>
      refine Ku_eq (by rw [x_literal]) ?_
      exact Ku_c rfl (ih _ _ _)
    | 8 =>
      refine Ku_eq (by rw [x_literal]) ?_
      exact Ku_ob (Ku_c rfl (ku_wholeOf _ _ _ _)) (fun _ h268 => Ku_so h268)
    | b + 9 =>
      refine Ku_eq (by rw [x_literal]) (Ku_no _)
theorem ku_size : ∀ (k b : Nat) (L : Nat → Int32) (σ : MS), Ku (x_size k b L σ) (ku σ) := by
  intro k
  induction k with
  | zero => intro b L σ; exact Ku_no _
  | succ k ih =>
    intro b L σ
    match b with
    | 0 =>
      refine Ku_eq (by rw [x_size]) ?_
      exact Ku_ite (Ku_c rfl (ih _ _ _)) (Ku_c rfl (ih _ _ _))
    | 1 =>
      refine Ku_eq (by rw [x_size]) ?_
      exact Ku_ite (Ku_c rfl (ih _ _ _)) (Ku_no _)
    | 2 =>
      refine Ku_eq (by rw [x_size]) ?_
      exact Ku_so rfl
    | b + 3 =>
      refine Ku_eq (by rw [x_size]) (Ku_no _)
theorem ku_worked : ∀ (k b : Nat) (L : Nat → Int32) (σ : MS), Ku (x_worked k b L σ) (ku σ) := by
  intro k
  induction k with
  | zero => intro b L σ; exact Ku_no _
  | succ k ih =>
    intro b L σ
    match b with
    | 0 =>
      refine Ku_eq (by rw [x_worked]) ?_
      exact Ku_c rfl (ih _ _ _)
    | 1 =>
      refine Ku_eq (by rw [x_worked]) ?_
      exact Ku_ite (Ku_c rfl (ih _ _ _)) (Ku_ob (Ku_c rfl (ku_fail _ _ _ _)) (fun _ h269 => Ku_c h269 (ih _ _ _)))
    | 2 =>
      refine Ku_eq (by rw [x_worked]) ?_
      exact Ku_so rfl
    | b + 3 =>
      refine Ku_eq (by rw [x_worked]) (Ku_no _)
theorem ku_answer : ∀ (k b : Nat) (L : Nat → Int32) (σ : MS), Ku (x_answer k b L σ) (ku σ) := by
  intro k
  induction k with
  | zero => intro b L σ; exact Ku_no _
  | succ k ih =>
    intro b L σ
    match b with
    | 0 =>
      refine Ku_eq (by rw [x_answer]) ?_
      exact Ku_ite (Ku_ob (Ku_c rfl (ku_size _ _ _ _)) (fun _ h270 => Ku_ob (Ku_c h270 (ku_worked _ _ _ _)) (fun _ h271 => Ku_c h271 (ih _ _ _)))) (Ku_c rfl (ih _ _ _))
    | 1 =>
      refine Ku_eq (by rw [x_answer]) ?_
      exact Ku_so rfl
    | b + 2 =>
      refine Ku_eq (by rw [x_answer]) (Ku_no _)
theorem ku_push : ∀ (k b : Nat) (L : Nat → Int32) (σ : MS), Ku (x_push k b L σ) (ku σ) := by
  intro k
  induction k with
  | zero => intro b L σ; exact Ku_no _
  | succ k ih =>
    intro b L σ
    match b with
    | 0 =>
      refine Ku_eq (by rw [x_push]) ?_
      exact Ku_ite (Ku_c rfl (ih _ _ _)) (Ku_no _)
    | 1 =>
      refine Ku_eq (by rw [x_push]) ?_
      exact Ku_so rfl
    | b + 2 =>
      refine Ku_eq (by rw [x_push]) (Ku_no _)
theorem ku_stringOf__12 : ∀ (k b : Nat) (L : Nat → Int32) (σ : MS), Ku (x_stringOf__12 k b L σ) (ku σ) := by
  intro k
  induction k with
  | zero => intro b L σ; exact Ku_no _
  | succ k ih =>
    intro b L σ
    match b with
    | 0 =>
      refine Ku_eq (by rw [x_stringOf__12]) ?_
      exact Ku_ite (Ku_no _) (Ku_ite (Ku_c rfl (ih _ _ _)) (Ku_ob (Ku_c rfl (ku_fail _ _ _ _)) (fun _ h272 => Ku_so h272)))
    | 1 =>
      refine Ku_eq (by rw [x_stringOf__12]) ?_
      exact Ku_ob (Ku_c rfl (ku_make _ _ _ _)) (fun _ h273 => Ku_c h273 (ih _ _ _))
    | 2 =>
      refine Ku_eq (by rw [x_stringOf__12]) ?_
      exact Ku_ite (Ku_c rfl (ih _ _ _)) (Ku_ite (Ku_ite (Ku_ite (Ku_c rfl (ih _ _ _)) (Ku_no _)) (Ku_no _)) (Ku_c rfl (ih _ _ _)))
    | 3 =>
      refine Ku_eq (by rw [x_stringOf__12]) ?_
      exact Ku_c rfl (ih _ _ _)
    | 4 =>
      refine Ku_eq (by rw [x_stringOf__12]) ?_
      exact Ku_ite (Ku_no _) (Ku_ite (Ku_c rfl (ih _ _ _)) (Ku_no _))
    | 5 =>
      refine Ku_eq (by rw [x_stringOf__12]) ?_
      exact Ku_so rfl
    | b + 6 =>
      refine Ku_eq (by rw [x_stringOf__12]) (Ku_no _)
theorem ku_newAtom : ∀ (k b : Nat) (L : Nat → Int32) (σ : MS), Ku (x_newAtom k b L σ) (ku σ) := by
  intro k
  induction k with
  | zero => intro b L σ; exact Ku_no _
  | succ k ih =>
    intro b L σ
    match b with
    | 0 =>
      refine Ku_eq (by rw [x_newAtom]) ?_
      exact Ku_ite (Ku_ob (Ku_c rfl (ku_fail _ _ _ _)) (fun _ h274 => Ku_so h274)) (Ku_c rfl (ih _ _ _))
    | 1 =>
      refine Ku_eq (by rw [x_newAtom]) ?_
      exact Ku_c rfl (ih _ _ _)
    | 2 =>
      refine Ku_eq (by rw [x_newAtom]) ?_
      exact Ku_ob (Ku_c rfl (ku_make _ _ _ _)) (fun _ h275 => Ku_ite (Ku_c h275 (ih _ _ _)) (Ku_so h275))
    | 3 =>
      refine Ku_eq (by rw [x_newAtom]) ?_
      exact Ku_ite (Ku_c rfl (ih _ _ _)) (Ku_no _)
    | 4 =>
      refine Ku_eq (by rw [x_newAtom]) ?_
      exact Ku_so rfl
    | b + 5 =>
      refine Ku_eq (by rw [x_newAtom]) (Ku_no _)
theorem ku_valueOf : ∀ (k b : Nat) (L : Nat → Int32) (σ : MS), Ku (x_valueOf k b L σ) (ku σ) := by
  intro k
  induction k with
  | zero => intro b L σ; exact Ku_no _
  | succ k ih =>
    intro b L σ
    match b with
    | 0 =>
      refine Ku_eq (by rw [x_valueOf]) ?_
      exact Ku_ite (Ku_ite (Ku_ite (Ku_ite (Ku_so rfl) (Ku_no _)) (Ku_no _)) (Ku_c rfl (ih _ _ _))) (Ku_no _)
    | 1 =>
      refine Ku_eq (by rw [x_valueOf]) ?_
      exact Ku_ite (Ku_c rfl (ih _ _ _)) (Ku_ite (Ku_ite (Ku_c rfl (ih _ _ _)) (Ku_no _)) (Ku_no _))
    | 2 =>
      refine Ku_eq (by rw [x_valueOf]) ?_
      exact Ku_ite (Ku_ite (Ku_ite (Ku_c rfl (ih _ _ _)) (Ku_no _)) (Ku_no _)) (Ku_no _)
    | 3 =>
      refine Ku_eq (by rw [x_valueOf]) ?_
      exact Ku_so rfl
    | b + 4 =>
      refine Ku_eq (by rw [x_valueOf]) (Ku_no _)
theorem ku_pop : ∀ (k b : Nat) (L : Nat → Int32) (σ : MS), Ku (x_pop k b L σ) (ku σ) := by
  intro k
  induction k with
  | zero => intro b L σ; exact Ku_no _
  | succ k ih =>
    intro b L σ
    match b with
    | 0 =>
      refine Ku_eq (by rw [x_pop]) ?_
      exact Ku_c rfl (ih _ _ _)
    | 1 =>
      refine Ku_eq (by rw [x_pop]) ?_
      exact Ku_ite (Ku_so rfl) (Ku_no _)
    | b + 2 =>
      refine Ku_eq (by rw [x_pop]) (Ku_no _)
theorem ku_kind : ∀ (k b : Nat) (L : Nat → Int32) (σ : MS), Ku (x_kind k b L σ) (ku σ) := by
  intro k
  induction k with
  | zero => intro b L σ; exact Ku_no _
  | succ k ih =>
    intro b L σ
    match b with
    | 0 =>
      refine Ku_eq (by rw [x_kind]) ?_
      exact Ku_ite (Ku_c rfl (ih _ _ _)) (Ku_c rfl (ih _ _ _))
    | 1 =>
      refine Ku_eq (by rw [x_kind]) ?_
      exact Ku_ite (Ku_c rfl (ih _ _ _)) (Ku_c rfl (ih _ _ _))
    | 2 =>
      refine Ku_eq (by rw [x_kind]) ?_
      exact Ku_ite (Ku_c rfl (ih _ _ _)) (Ku_no _)
    | 3 =>
      refine Ku_eq (by rw [x_kind]) ?_
      exact Ku_so rfl
    | b + 4 =>
      refine Ku_eq (by rw [x_kind]) (Ku_no _)
theorem ku_wrongKind : ∀ (k b : Nat) (L : Nat → Int32) (σ : MS), Ku (x_wrongKind k b L σ) (ku σ) := by
  intro k
  induction k with
  | zero => intro b L σ; exact Ku_no _
  | succ k ih =>
    intro b L σ
    match b with
    | 0 =>
      refine Ku_eq (by rw [x_wrongKind]) ?_
      exact Ku_ob (Ku_c rfl (ku_fail _ _ _ _)) (fun _ h276 => Ku_so h276)
    | b + 1 =>
      refine Ku_eq (by rw [x_wrongKind]) (Ku_no _)
theorem ku_signOf : ∀ (k b : Nat) (L : Nat → Int32) (σ : MS), Ku (x_signOf k b L σ) (ku σ) := by
  intro k
  induction k with
  | zero => intro b L σ; exact Ku_no _
  | succ k ih =>
    intro b L σ
    match b with
    | 0 =>
      refine Ku_eq (by rw [x_signOf]) ?_
      exact Ku_ite (Ku_so rfl) (Ku_no _)
    | b + 1 =>
      refine Ku_eq (by rw [x_signOf]) (Ku_no _)
theorem ku_loadA : ∀ (k b : Nat) (L : Nat → Int32) (σ : MS), Ku (x_loadA k b L σ) (ku σ) := by
  intro k
  induction k with
  | zero => intro b L σ; exact Ku_no _
  | succ k ih =>
    intro b L σ
    match b with
    | 0 =>
      refine Ku_eq (by rw [x_loadA]) ?_
      exact Ku_ite (Ku_c rfl (ih _ _ _)) (Ku_no _)
    | 1 =>
      refine Ku_eq (by rw [x_loadA]) ?_
      exact Ku_c rfl (ih _ _ _)
    | 2 =>
      refine Ku_eq (by rw [x_loadA]) ?_
      exact Ku_ite (Ku_c rfl (ih _ _ _)) (Ku_ite (Ku_ite (Ku_c rfl (ih _ _ _)) (Ku_no _)) (Ku_no _))
    | 3 =>
      refine Ku_eq (by rw [x_loadA]) ?_
      exact Ku_c rfl (ih _ _ _)
    | 4 =>
      refine Ku_eq (by rw [x_loadA]) ?_
      exact Ku_so rfl
    | b + 5 =>
      refine Ku_eq (by rw [x_loadA]) (Ku_no _)
theorem ku_other : ∀ (k b : Nat) (L : Nat → Int32) (σ : MS), Ku (x_other k b L σ) (ku σ) := by
  intro k
  induction k with
  | zero => intro b L σ; exact Ku_no _
  | succ k ih =>
    intro b L σ
    match b with
    | 0 =>
      refine Ku_eq (by rw [x_other]) ?_
      exact Ku_ob (Ku_c rfl (ku_loadA _ _ _ _)) (fun _ h277 => Ku_c h277 (ih _ _ _))
    | 1 =>
      refine Ku_eq (by rw [x_other]) ?_
      exact Ku_c rfl (ih _ _ _)
    | 2 =>
      refine Ku_eq (by rw [x_other]) ?_
      exact Ku_ite (Ku_c rfl (ih _ _ _)) (Ku_ite (Ku_ite (Ku_c rfl (ih _ _ _)) (Ku_no _)) (Ku_no _))
    | 3 =>
      refine Ku_eq (by rw [x_other]) ?_
      exact Ku_c rfl (ih _ _ _)
    | 4 =>
      refine Ku_eq (by rw [x_other]) ?_
      exact Ku_ob (Ku_c rfl (ku_signOf _ _ _ _)) (fun _ h278 => Ku_ob (Ku_c h278 (ku_wholeOf _ _ _ _)) (fun _ h279 => Ku_so h279))
    | b + 5 =>
      refine Ku_eq (by rw [x_other]) (Ku_no _)
theorem ku_isMap : ∀ (k b : Nat) (L : Nat → Int32) (σ : MS), Ku (x_isMap k b L σ) (ku σ) := by
  intro k
  induction k with
  | zero => intro b L σ; exact Ku_no _
  | succ k ih =>
    intro b L σ
    match b with
    | 0 =>
      refine Ku_eq (by rw [x_isMap]) ?_
      exact Ku_ob (Ku_c rfl (ku_kind _ _ _ _)) (fun _ h280 => Ku_ite (Ku_c h280 (ih _ _ _)) (Ku_c h280 (ih _ _ _)))
    | 1 =>
      refine Ku_eq (by rw [x_isMap]) ?_
      exact Ku_c rfl (ih _ _ _)
    | 2 =>
      refine Ku_eq (by rw [x_isMap]) ?_
      exact Ku_c rfl (ih _ _ _)
    | 3 =>
      refine Ku_eq (by rw [x_isMap]) ?_
      exact Ku_ite (Ku_c rfl (ih _ _ _)) (Ku_ite (Ku_ite (Ku_c rfl (ih _ _ _)) (Ku_ite (Ku_ob (Ku_c rfl (ku_kind _ _ _ _)) (fun _ h281 => Ku_ite (Ku_ite (Ku_ite (Ku_c h281 (ih _ _ _)) (Ku_c h281 (ih _ _ _))) (Ku_no _)) (Ku_c h281 (ih _ _ _)))) (Ku_no _))) (Ku_no _))
    | 4 =>
      refine Ku_eq (by rw [x_isMap]) ?_
      exact Ku_c rfl (ih _ _ _)
    | 5 =>
      refine Ku_eq (by rw [x_isMap]) ?_
      exact Ku_c rfl (ih _ _ _)
    | 6 =>
      refine Ku_eq (by rw [x_isMap]) ?_
      exact Ku_ite (Ku_so rfl) (Ku_no _)
    | b + 7 =>
      refine Ku_eq (by rw [x_isMap]) (Ku_no _)
theorem ku_rank : ∀ (k b : Nat) (L : Nat → Int32) (σ : MS), Ku (x_rank k b L σ) (ku σ) := by
  intro k
  induction k with
  | zero => intro b L σ; exact Ku_no _
  | succ k ih =>
    intro b L σ
    match b with
    | 0 =>
      refine Ku_eq (by rw [x_rank]) ?_
      exact Ku_ite (Ku_c rfl (ih _ _ _)) (Ku_c rfl (ih _ _ _))
    | 1 =>
      refine Ku_eq (by rw [x_rank]) ?_
      exact Ku_ite (Ku_c rfl (ih _ _ _)) (Ku_no _)
    | 2 =>
      refine Ku_eq (by rw [x_rank]) ?_
      exact Ku_so rfl
    | b + 3 =>
      refine Ku_eq (by rw [x_rank]) (Ku_no _)
theorem ku_compareWholes : ∀ (k b : Nat) (L : Nat → Int32) (σ : MS), Ku (x_compareWholes k b L σ) (ku σ) := by
  intro k
  induction k with
  | zero => intro b L σ; exact Ku_no _
  | succ k ih =>
    intro b L σ
    match b with
    | 0 =>
      refine Ku_eq (by rw [x_compareWholes]) ?_
      exact Ku_ob (Ku_c rfl (ku_signOf _ _ _ _)) (fun _ h282 => Ku_ob (Ku_c h282 (ku_signOf _ _ _ _)) (fun _ h283 => Ku_ite (Ku_c h283 (ih _ _ _)) (Ku_ob (Ku_c h283 (ku_signOf _ _ _ _)) (fun _ h284 => Ku_ob (Ku_c h284 (ku_signOf _ _ _ _)) (fun _ h285 => Ku_so h285)))))
    | 1 =>
      refine Ku_eq (by rw [x_compareWholes]) ?_
      exact Ku_ite (Ku_ite (Ku_c rfl (ih _ _ _)) (Ku_no _)) (Ku_no _)
    | 2 =>
      refine Ku_eq (by rw [x_compareWholes]) ?_
      exact Ku_ite (Ku_c rfl (ih _ _ _)) (Ku_ite (Ku_ite (Ku_ite (Ku_c rfl (ih _ _ _)) (Ku_no _)) (Ku_no _)) (Ku_c rfl (ih _ _ _)))
    | 3 =>
      refine Ku_eq (by rw [x_compareWholes]) ?_
      exact Ku_ob (Ku_c rfl (ku_signOf _ _ _ _)) (fun _ h286 => Ku_ite (Ku_c h286 (ih _ _ _)) (Ku_c h286 (ih _ _ _)))
    | 4 =>
      refine Ku_eq (by rw [x_compareWholes]) ?_
      exact Ku_c rfl (ih _ _ _)
    | 5 =>
      refine Ku_eq (by rw [x_compareWholes]) ?_
      exact Ku_so rfl
    | b + 6 =>
      refine Ku_eq (by rw [x_compareWholes]) (Ku_no _)
theorem ku_s_compare {X : Nat → Nat → Nat → (Nat → Int32) → MS → Option (Int32 × MS)} (hX : ∀ e m b L (σ : MS), Ku (X e m b L σ) (ku σ)) (k d b : Nat) (L : Nat → Int32) (σ : MS) : Ku (s_compare X k d b L σ) (ku σ) := by
  match b with
  | 0 => exact Ku_ite (Ku_so rfl) (Ku_c rfl (hX _ _ _ _ _))
  | 1 => exact Ku_ob (Ku_c rfl (ku_rank _ _ _ _)) (fun _ h287 => Ku_ob (Ku_c h287 (ku_rank _ _ _ _)) (fun _ h288 => Ku_ite (Ku_c h288 (hX _ _ _ _ _)) (Ku_so h288)))
  | 2 => exact Ku_ite (Ku_ite (Ku_ob (Ku_c rfl (ku_compareWholes _ _ _ _)) (fun _ h289 => Ku_so h289)) (Ku_c rfl (hX _ _ _ _ _))) (Ku_no _)
  | 3 => exact Ku_ite (Ku_ite (Ku_c rfl (hX _ _ _ _ _)) (Ku_no _)) (Ku_no _)
  | 4 => exact Ku_ite (Ku_c rfl (hX _ _ _ _ _)) (Ku_ite (Ku_c rfl (hX _ _ _ _ _)) (Ku_ite (Ku_c rfl (hX _ _ _ _ _)) (Ku_ite (Ku_c rfl (hX _ _ _ _ _)) (Ku_c rfl (hX _ _ _ _ _)))))
  | 5 => exact Ku_ite (Ku_ite (Ku_od (fun _ => Ku_ob (Ku_c rfl (hX _ _ _ _ _)) (fun _ h290 => Ku_c h290 (hX _ _ _ _ _)))) (Ku_no _)) (Ku_no _)
  | 6 => exact Ku_ite (Ku_ite (Ku_c rfl (hX _ _ _ _ _)) (Ku_no _)) (Ku_no _)
  | 7 => exact Ku_ite (Ku_c rfl (hX _ _ _ _ _)) (Ku_so rfl)
  | 8 => exact Ku_c rfl (hX _ _ _ _ _)
  | 9 => exact Ku_so rfl
  | b + 10 => exact Ku_no _
theorem ku_GC : ∀ (k d m b : Nat) (L : Nat → Int32) (σ : MS), Ku (x_GC k d m b L σ) (ku σ) := by
  intro k
  induction k with
  | zero => intro d m b L σ; exact Ku_no _
  | succ k ih =>
    intro d m b L σ
    match m with
    | 0 => exact ku_s_compare ih k d b L σ
    | m + 1 => exact Ku_no _
theorem ku_compare (k b : Nat) (L : Nat → Int32) (σ : MS) : Ku (x_compare k b L σ) (ku σ) := ku_GC k 40 0 b L σ
theorem ku_merge : ∀ (k b : Nat) (L : Nat → Int32) (σ : MS), Ku (x_merge k b L σ) (ku σ) := by
  intro k
  induction k with
  | zero => intro b L σ; exact Ku_no _
  | succ k ih =>
    intro b L σ
    match b with
    | 0 =>
      refine Ku_eq (by rw [x_merge]) ?_
      exact Ku_c rfl (ih _ _ _)
    | 1 =>
      refine Ku_eq (by rw [x_merge]) ?_
      exact Ku_ite (Ku_c rfl (ih _ _ _)) (Ku_ite (Ku_c rfl (ih _ _ _)) (Ku_ite (Ku_c rfl (ih _ _ _)) (Ku_ite (Ku_ite (Ku_ob (Ku_c rfl (ku_compare _ _ _ _)) (fun _ h291 => Ku_ite (Ku_c h291 (ih _ _ _)) (Ku_c h291 (ih _ _ _)))) (Ku_no _)) (Ku_no _))))
    | 2 =>
      refine Ku_eq (by rw [x_merge]) ?_
      exact Ku_c rfl (ih _ _ _)
    | 3 =>
      refine Ku_eq (by rw [x_merge]) ?_
      exact Ku_c rfl (ih _ _ _)
    | 4 =>
      refine Ku_eq (by rw [x_merge]) ?_
      exact Ku_ite (Ku_c rfl (ih _ _ _)) (Ku_ite (Ku_c rfl (ih _ _ _)) (Ku_no _))
    | 5 =>
      refine Ku_eq (by rw [x_merge]) ?_
      exact Ku_ite (Ku_c rfl (ih _ _ _)) (Ku_no _)
    | 6 =>
      refine Ku_eq (by rw [x_merge]) ?_
      exact Ku_ite (Ku_c rfl (ih _ _ _)) (Ku_no _)
    | 7 =>
      refine Ku_eq (by rw [x_merge]) ?_
      exact Ku_ite (Ku_c rfl (ih _ _ _)) (Ku_c rfl (ih _ _ _))
    | 8 =>
      refine Ku_eq (by rw [x_merge]) ?_
      exact Ku_c rfl (ih _ _ _)
    | 9 =>
      refine Ku_eq (by rw [x_merge]) ?_
      exact Ku_ite (Ku_c rfl (ih _ _ _)) (Ku_c rfl (ih _ _ _))
    | 10 =>
      refine Ku_eq (by rw [x_merge]) ?_
      exact Ku_c rfl (ih _ _ _)
    | 11 =>
      refine Ku_eq (by rw [x_merge]) ?_
      exact Ku_c rfl (ih _ _ _)
    | 12 =>
      refine Ku_eq (by rw [x_merge]) ?_
      exact Ku_so rfl
    | b + 13 =>
      refine Ku_eq (by rw [x_merge]) (Ku_no _)
theorem ku_distinct : ∀ (k b : Nat) (L : Nat → Int32) (σ : MS), Ku (x_distinct k b L σ) (ku σ) := by
  intro k
  induction k with
  | zero => intro b L σ; exact Ku_no _
  | succ k ih =>
    intro b L σ
    match b with
    | 0 =>
      refine Ku_eq (by rw [x_distinct]) ?_
      exact Ku_c rfl (ih _ _ _)
    | 1 =>
      refine Ku_eq (by rw [x_distinct]) ?_
      exact Ku_ite (Ku_c rfl (ih _ _ _)) (Ku_c rfl (ih _ _ _))
    | 2 =>
      refine Ku_eq (by rw [x_distinct]) ?_
      exact Ku_ite (Ku_c rfl (ih _ _ _)) (Ku_ite (Ku_c rfl (ih _ _ _)) (Ku_c rfl (ih _ _ _)))
    | 3 =>
      refine Ku_eq (by rw [x_distinct]) ?_
      exact Ku_c rfl (ih _ _ _)
    | 4 =>
      refine Ku_eq (by rw [x_distinct]) ?_
      exact Ku_ite (Ku_c rfl (ih _ _ _)) (Ku_c rfl (ih _ _ _))
    | 5 =>
      refine Ku_eq (by rw [x_distinct]) ?_
      exact Ku_c rfl (ih _ _ _)
    | 6 =>
      refine Ku_eq (by rw [x_distinct]) ?_
      exact Ku_ob (Ku_c rfl (ku_merge _ _ _ _)) (fun _ h292 => Ku_c h292 (ih _ _ _))
    | 7 =>
      refine Ku_eq (by rw [x_distinct]) ?_
      exact Ku_c rfl (ih _ _ _)
    | 8 =>
      refine Ku_eq (by rw [x_distinct]) ?_
      exact Ku_ite (Ku_c rfl (ih _ _ _)) (Ku_ite (Ku_ite (Ku_c rfl (ih _ _ _)) (Ku_no _)) (Ku_no _))
    | 9 =>
      refine Ku_eq (by rw [x_distinct]) ?_
      exact Ku_c rfl (ih _ _ _)
    | 10 =>
      refine Ku_eq (by rw [x_distinct]) ?_
      exact Ku_c rfl (ih _ _ _)
    | 11 =>
      refine Ku_eq (by rw [x_distinct]) ?_
      exact Ku_c rfl (ih _ _ _)
    | 12 =>
      refine Ku_eq (by rw [x_distinct]) ?_
      exact Ku_ite (Ku_c rfl (ih _ _ _)) (Ku_ite (Ku_c rfl (ih _ _ _)) (Ku_ite (Ku_ite (Ku_ob (Ku_c rfl (ku_compare _ _ _ _)) (fun _ h293 => Ku_ite (Ku_c h293 (ih _ _ _)) (Ku_c h293 (ih _ _ _)))) (Ku_no _)) (Ku_no _)))
    | 13 =>
      refine Ku_eq (by rw [x_distinct]) ?_
      exact Ku_ite (Ku_ite (Ku_c rfl (ih _ _ _)) (Ku_no _)) (Ku_no _)
    | 14 =>
      refine Ku_eq (by rw [x_distinct]) ?_
      exact Ku_c rfl (ih _ _ _)
    | 15 =>
      refine Ku_eq (by rw [x_distinct]) ?_
      exact Ku_c rfl (ih _ _ _)
    | 16 =>
      refine Ku_eq (by rw [x_distinct]) ?_
      exact Ku_so rfl
    | b + 17 =>
      refine Ku_eq (by rw [x_distinct]) (Ku_no _)
theorem ku_height : ∀ (k b : Nat) (L : Nat → Int32) (σ : MS), Ku (x_height k b L σ) (ku σ) := by
  intro k
  induction k with
  | zero => intro b L σ; exact Ku_no _
  | succ k ih =>
    intro b L σ
    match b with
    | 0 =>
      refine Ku_eq (by rw [x_height]) ?_
      exact Ku_ite (Ku_c rfl (ih _ _ _)) (Ku_c rfl (ih _ _ _))
    | 1 =>
      refine Ku_eq (by rw [x_height]) ?_
      exact Ku_ite (Ku_c rfl (ih _ _ _)) (Ku_no _)
    | 2 =>
      refine Ku_eq (by rw [x_height]) ?_
      exact Ku_so rfl
    | b + 3 =>
      refine Ku_eq (by rw [x_height]) (Ku_no _)
theorem ku_checked : ∀ (k b : Nat) (L : Nat → Int32) (σ : MS), Ku (x_checked k b L σ) (ku σ) := by
  intro k
  induction k with
  | zero => intro b L σ; exact Ku_no _
  | succ k ih =>
    intro b L σ
    match b with
    | 0 =>
      refine Ku_eq (by rw [x_checked]) ?_
      exact Ku_ite (Ku_ite (Ku_ite (Ku_c rfl (ih _ _ _)) (Ku_ite (Ku_ite (Ku_c rfl (ih _ _ _)) (Ku_c rfl (ih _ _ _))) (Ku_no _))) (Ku_no _)) (Ku_c rfl (ih _ _ _))
    | 1 =>
      refine Ku_eq (by rw [x_checked]) ?_
      exact Ku_ob (Ku_c rfl (ku_fail _ _ _ _)) (fun _ h294 => Ku_c h294 (ih _ _ _))
    | 2 =>
      refine Ku_eq (by rw [x_checked]) ?_
      exact Ku_ite (Ku_c rfl (ih _ _ _)) (Ku_c rfl (ih _ _ _))
    | 3 =>
      refine Ku_eq (by rw [x_checked]) ?_
      exact Ku_c rfl (ih _ _ _)
    | 4 =>
      refine Ku_eq (by rw [x_checked]) ?_
      exact Ku_so rfl
    | b + 5 =>
      refine Ku_eq (by rw [x_checked]) (Ku_no _)
theorem ku_measured : ∀ (k b : Nat) (L : Nat → Int32) (σ : MS), Ku (x_measured k b L σ) (ku σ) := by
  intro k
  induction k with
  | zero => intro b L σ; exact Ku_no _
  | succ k ih =>
    intro b L σ
    match b with
    | 0 =>
      refine Ku_eq (by rw [x_measured]) ?_
      exact Ku_ite (Ku_c rfl (ih _ _ _)) (Ku_no _)
    | 1 =>
      refine Ku_eq (by rw [x_measured]) ?_
      exact Ku_ite (Ku_c rfl (ih _ _ _)) (Ku_ite (Ku_ob (Ku_c rfl (ku_size _ _ _ _)) (fun _ h295 => Ku_ob (Ku_c h295 (ku_height _ _ _ _)) (fun _ h296 => Ku_ite (Ku_c h296 (ih _ _ _)) (Ku_ob (Ku_c h296 (ku_height _ _ _ _)) (fun _ h297 => Ku_c h297 (ih _ _ _)))))) (Ku_no _))
    | 2 =>
      refine Ku_eq (by rw [x_measured]) ?_
      exact Ku_c rfl (ih _ _ _)
    | 3 =>
      refine Ku_eq (by rw [x_measured]) ?_
      exact Ku_c rfl (ih _ _ _)
    | 4 =>
      refine Ku_eq (by rw [x_measured]) ?_
      exact Ku_ite (Ku_c rfl (ih _ _ _)) (Ku_no _)
    | 5 =>
      refine Ku_eq (by rw [x_measured]) ?_
      exact Ku_ite (Ku_c rfl (ih _ _ _)) (Ku_no _)
    | 6 =>
      refine Ku_eq (by rw [x_measured]) ?_
      exact Ku_ob (Ku_c rfl (ku_checked _ _ _ _)) (fun _ h298 => Ku_so h298)
    | b + 7 =>
      refine Ku_eq (by rw [x_measured]) (Ku_no _)
theorem ku_setOf : ∀ (k b : Nat) (L : Nat → Int32) (σ : MS), Ku (x_setOf k b L σ) (ku σ) := by
  intro k
  induction k with
  | zero => intro b L σ; exact Ku_no _
  | succ k ih =>
    intro b L σ
    match b with
    | 0 =>
      refine Ku_eq (by rw [x_setOf]) ?_
      exact Ku_ob (Ku_c rfl (ku_distinct _ _ _ _)) (fun _ h299 => Ku_c h299 (ih _ _ _))
    | 1 =>
      refine Ku_eq (by rw [x_setOf]) ?_
      exact Ku_ob (Ku_c rfl (ku_make _ _ _ _)) (fun _ h300 => Ku_ite (Ku_c h300 (ih _ _ _)) (Ku_so h300))
    | 2 =>
      refine Ku_eq (by rw [x_setOf]) ?_
      exact Ku_c rfl (ih _ _ _)
    | 3 =>
      refine Ku_eq (by rw [x_setOf]) ?_
      exact Ku_ite (Ku_c rfl (ih _ _ _)) (Ku_ite (Ku_ite (Ku_c rfl (ih _ _ _)) (Ku_no _)) (Ku_no _))
    | 4 =>
      refine Ku_eq (by rw [x_setOf]) ?_
      exact Ku_c rfl (ih _ _ _)
    | 5 =>
      refine Ku_eq (by rw [x_setOf]) ?_
      exact Ku_ob (Ku_c rfl (ku_measured _ _ _ _)) (fun _ h301 => Ku_so h301)
    | b + 6 =>
      refine Ku_eq (by rw [x_setOf]) (Ku_no _)
theorem ku_side : ∀ (k b : Nat) (L : Nat → Int32) (σ : MS), Ku (x_side k b L σ) (ku σ) := by
  intro k
  induction k with
  | zero => intro b L σ; exact Ku_no _
  | succ k ih =>
    intro b L σ
    match b with
    | 0 =>
      refine Ku_eq (by rw [x_side]) ?_
      exact Ku_ob (Ku_c rfl (ku_isMap _ _ _ _)) (fun _ h302 => Ku_ite (Ku_ob (Ku_c h302 (ku_wrongKind _ _ _ _)) (fun _ h303 => Ku_so h303)) (Ku_c h302 (ih _ _ _)))
    | 1 =>
      refine Ku_eq (by rw [x_side]) ?_
      exact Ku_c rfl (ih _ _ _)
    | 2 =>
      refine Ku_eq (by rw [x_side]) ?_
      exact Ku_ite (Ku_ite (Ku_c rfl (ih _ _ _)) (Ku_ite (Ku_ite (Ku_ob (Ku_c rfl (ku_push _ _ _ _)) (fun _ h304 => Ku_c h304 (ih _ _ _))) (Ku_no _)) (Ku_no _))) (Ku_no _)
    | 3 =>
      refine Ku_eq (by rw [x_side]) ?_
      exact Ku_c rfl (ih _ _ _)
    | 4 =>
      refine Ku_eq (by rw [x_side]) ?_
      exact Ku_ite (Ku_c rfl (ih _ _ _)) (Ku_ite (Ku_ite (Ku_ite (Ku_c rfl (ih _ _ _)) (Ku_c rfl (ih _ _ _))) (Ku_no _)) (Ku_c rfl (ih _ _ _)))
    | 5 =>
      refine Ku_eq (by rw [x_side]) ?_
      exact Ku_c rfl (ih _ _ _)
    | 6 =>
      refine Ku_eq (by rw [x_side]) ?_
      exact Ku_c rfl (ih _ _ _)
    | 7 =>
      refine Ku_eq (by rw [x_side]) ?_
      exact Ku_c rfl (ih _ _ _)
    | 8 =>
      refine Ku_eq (by rw [x_side]) ?_
      exact Ku_ite (Ku_c rfl (ih _ _ _)) (Ku_c rfl (ih _ _ _))
    | 9 =>
      refine Ku_eq (by rw [x_side]) ?_
      exact Ku_ob (Ku_c rfl (ku_fail _ _ _ _)) (fun _ h305 => Ku_so h305)
    | 10 =>
      refine Ku_eq (by rw [x_side]) ?_
      exact Ku_ob (Ku_c rfl (ku_setOf _ _ _ _)) (fun _ h306 => Ku_so h306)
    | b + 11 =>
      refine Ku_eq (by rw [x_side]) (Ku_no _)
theorem ku_powerSet : ∀ (k b : Nat) (L : Nat → Int32) (σ : MS), Ku (x_powerSet k b L σ) (ku σ) := by
  intro k
  induction k with
  | zero => intro b L σ; exact Ku_no _
  | succ k ih =>
    intro b L σ
    match b with
    | 0 =>
      refine Ku_eq (by rw [x_powerSet]) ?_
      exact Ku_ob (Ku_c rfl (ku_kind _ _ _ _)) (fun _ h307 => Ku_ite (Ku_c h307 (ih _ _ _)) (Ku_ob (Ku_c h307 (ku_wrongKind _ _ _ _)) (fun _ h308 => Ku_so h308)))
    | 1 =>
      refine Ku_eq (by rw [x_powerSet]) ?_
      exact Ku_ite (Ku_ite (Ku_c rfl (ih _ _ _)) (Ku_ob (Ku_c rfl (ku_fail _ _ _ _)) (fun _ h309 => Ku_so h309))) (Ku_no _)
    | 2 =>
      refine Ku_eq (by rw [x_powerSet]) ?_
      exact Ku_c rfl (ih _ _ _)
    | 3 =>
      refine Ku_eq (by rw [x_powerSet]) ?_
      exact Ku_ite (Ku_c rfl (ih _ _ _)) (Ku_ite (Ku_c rfl (ih _ _ _)) (Ku_c rfl (ih _ _ _)))
    | 4 =>
      refine Ku_eq (by rw [x_powerSet]) ?_
      exact Ku_ite (Ku_c rfl (ih _ _ _)) (Ku_ite (Ku_ite (Ku_ob (Ku_c rfl (ku_push _ _ _ _)) (fun _ h310 => Ku_c h310 (ih _ _ _))) (Ku_no _)) (Ku_c rfl (ih _ _ _)))
    | 5 =>
      refine Ku_eq (by rw [x_powerSet]) ?_
      exact Ku_c rfl (ih _ _ _)
    | 6 =>
      refine Ku_eq (by rw [x_powerSet]) ?_
      exact Ku_ob (Ku_c rfl (ku_setOf _ _ _ _)) (fun _ h311 => Ku_ob (Ku_c h311 (ku_push _ _ _ _)) (fun _ h312 => Ku_c h312 (ih _ _ _)))
    | 7 =>
      refine Ku_eq (by rw [x_powerSet]) ?_
      exact Ku_ite (Ku_ob (Ku_c rfl (ku_setOf _ _ _ _)) (fun _ h313 => Ku_c h313 (ih _ _ _))) (Ku_c rfl (ih _ _ _))
    | 8 =>
      refine Ku_eq (by rw [x_powerSet]) ?_
      exact Ku_c rfl (ih _ _ _)
    | 9 =>
      refine Ku_eq (by rw [x_powerSet]) ?_
      exact Ku_so rfl
    | b + 10 =>
      refine Ku_eq (by rw [x_powerSet]) (Ku_no _)
theorem ku_put : ∀ (k b : Nat) (L : Nat → Int32) (σ : MS), Ku (x_put k b L σ) (ku σ) := by
  intro k
  induction k with
  | zero => intro b L σ; exact Ku_no _
  | succ k ih =>
    intro b L σ
    match b with
    | 0 =>
      refine Ku_eq (by rw [x_put]) ?_
      exact Ku_ite (Ku_c rfl (ih _ _ _)) (Ku_no _)
    | 1 =>
      refine Ku_eq (by rw [x_put]) ?_
      exact Ku_so rfl
    | b + 2 =>
      refine Ku_eq (by rw [x_put]) (Ku_no _)
theorem ku_putWord : ∀ (k b : Nat) (L : Nat → Int32) (σ : MS), Ku (x_putWord k b L σ) (ku σ) := by
  intro k
  induction k with
  | zero => intro b L σ; exact Ku_no _
  | succ k ih =>
    intro b L σ
    match b with
    | 0 =>
      refine Ku_eq (by rw [x_putWord]) ?_
      exact Ku_c rfl (ih _ _ _)
    | 1 =>
      refine Ku_eq (by rw [x_putWord]) ?_
      exact Ku_ite (Ku_c rfl (ih _ _ _)) (Ku_ite (Ku_ite (Ku_c rfl (ih _ _ _)) (Ku_c rfl (ih _ _ _))) (Ku_no _))
    | 2 =>
      refine Ku_eq (by rw [x_putWord]) ?_
      exact Ku_c rfl (ih _ _ _)
    | 3 =>
      refine Ku_eq (by rw [x_putWord]) ?_
      exact Ku_c rfl (ih _ _ _)
    | 4 =>
      refine Ku_eq (by rw [x_putWord]) ?_
      exact Ku_ite (Ku_ite (Ku_c rfl (ih _ _ _)) (Ku_ite (Ku_ob (Ku_c rfl (ku_put _ _ _ _)) (fun _ h314 => Ku_c h314 (ih _ _ _))) (Ku_no _))) (Ku_no _)
    | 5 =>
      refine Ku_eq (by rw [x_putWord]) ?_
      exact Ku_so rfl
    | b + 6 =>
      refine Ku_eq (by rw [x_putWord]) (Ku_no _)
theorem ku_stringOf__48 : ∀ (k b : Nat) (L : Nat → Int32) (σ : MS), Ku (x_stringOf__48 k b L σ) (ku σ) := by
  intro k
  induction k with
  | zero => intro b L σ; exact Ku_no _
  | succ k ih =>
    intro b L σ
    match b with
    | 0 =>
      refine Ku_eq (by rw [x_stringOf__48]) ?_
      exact Ku_ite (Ku_no _) (Ku_ite (Ku_c rfl (ih _ _ _)) (Ku_ob (Ku_c rfl (ku_fail _ _ _ _)) (fun _ h315 => Ku_so h315)))
    | 1 =>
      refine Ku_eq (by rw [x_stringOf__48]) ?_
      exact Ku_ob (Ku_c rfl (ku_make _ _ _ _)) (fun _ h316 => Ku_c h316 (ih _ _ _))
    | 2 =>
      refine Ku_eq (by rw [x_stringOf__48]) ?_
      exact Ku_ite (Ku_c rfl (ih _ _ _)) (Ku_ite (Ku_ite (Ku_ite (Ku_c rfl (ih _ _ _)) (Ku_no _)) (Ku_no _)) (Ku_c rfl (ih _ _ _)))
    | 3 =>
      refine Ku_eq (by rw [x_stringOf__48]) ?_
      exact Ku_c rfl (ih _ _ _)
    | 4 =>
      refine Ku_eq (by rw [x_stringOf__48]) ?_
      exact Ku_ite (Ku_no _) (Ku_ite (Ku_c rfl (ih _ _ _)) (Ku_no _))
    | 5 =>
      refine Ku_eq (by rw [x_stringOf__48]) ?_
      exact Ku_so rfl
    | b + 6 =>
      refine Ku_eq (by rw [x_stringOf__48]) (Ku_no _)
theorem ku_typeOf : ∀ (k b : Nat) (L : Nat → Int32) (σ : MS), Ku (x_typeOf k b L σ) (ku σ) := by
  intro k
  induction k with
  | zero => intro b L σ; exact Ku_no _
  | succ k ih =>
    intro b L σ
    match b with
    | 0 =>
      refine Ku_eq (by rw [x_typeOf]) ?_
      exact Ku_c rfl (ih _ _ _)
    | 1 =>
      refine Ku_eq (by rw [x_typeOf]) ?_
      exact Ku_ob (Ku_c rfl (ku_kind _ _ _ _)) (fun _ h317 => Ku_ob (Ku_c h317 (ku_putWord _ _ _ _)) (fun _ h318 => Ku_ob (Ku_c h318 (ku_stringOf__48 _ _ _ _)) (fun _ h319 => Ku_so h319)))
    | b + 2 =>
      refine Ku_eq (by rw [x_typeOf]) (Ku_no _)
theorem ku_putTruth : ∀ (k b : Nat) (L : Nat → Int32) (σ : MS), Ku (x_putTruth k b L σ) (ku σ) := by
  intro k
  induction k with
  | zero => intro b L σ; exact Ku_no _
  | succ k ih =>
    intro b L σ
    match b with
    | 0 =>
      refine Ku_eq (by rw [x_putTruth]) ?_
      exact Ku_ite (Ku_c rfl (ih _ _ _)) (Ku_c rfl (ih _ _ _))
    | 1 =>
      refine Ku_eq (by rw [x_putTruth]) ?_
      exact Ku_c rfl (ih _ _ _)
    | 2 =>
      refine Ku_eq (by rw [x_putTruth]) ?_
      exact Ku_ob (Ku_c rfl (ku_put _ _ _ _)) (fun _ h320 => Ku_ite (Ku_c h320 (ih _ _ _)) (Ku_c h320 (ih _ _ _)))
    | 3 =>
      refine Ku_eq (by rw [x_putTruth]) ?_
      exact Ku_c rfl (ih _ _ _)
    | 4 =>
      refine Ku_eq (by rw [x_putTruth]) ?_
      exact Ku_ob (Ku_c rfl (ku_put _ _ _ _)) (fun _ h321 => Ku_ite (Ku_c h321 (ih _ _ _)) (Ku_c h321 (ih _ _ _)))
    | 5 =>
      refine Ku_eq (by rw [x_putTruth]) ?_
      exact Ku_c rfl (ih _ _ _)
    | 6 =>
      refine Ku_eq (by rw [x_putTruth]) ?_
      exact Ku_ob (Ku_c rfl (ku_put _ _ _ _)) (fun _ h322 => Ku_ite (Ku_c h322 (ih _ _ _)) (Ku_c h322 (ih _ _ _)))
    | 7 =>
      refine Ku_eq (by rw [x_putTruth]) ?_
      exact Ku_c rfl (ih _ _ _)
    | 8 =>
      refine Ku_eq (by rw [x_putTruth]) ?_
      exact Ku_ob (Ku_c rfl (ku_put _ _ _ _)) (fun _ h323 => Ku_ite (Ku_ob (Ku_c h323 (ku_put _ _ _ _)) (fun _ h324 => Ku_c h324 (ih _ _ _))) (Ku_c h323 (ih _ _ _)))
    | 9 =>
      refine Ku_eq (by rw [x_putTruth]) ?_
      exact Ku_so rfl
    | b + 10 =>
      refine Ku_eq (by rw [x_putTruth]) (Ku_no _)
theorem ku_putWhole : ∀ (k b : Nat) (L : Nat → Int32) (σ : MS), Ku (x_putWhole k b L σ) (ku σ) := by
  intro k
  induction k with
  | zero => intro b L σ; exact Ku_no _
  | succ k ih =>
    intro b L σ
    match b with
    | 0 =>
      refine Ku_eq (by rw [x_putWhole]) ?_
      exact Ku_ob (Ku_c rfl (ku_loadA _ _ _ _)) (fun _ h325 => Ku_ite (Ku_ite (Ku_c h325 (ih _ _ _)) (Ku_no _)) (Ku_c h325 (ih _ _ _)))
    | 1 =>
      refine Ku_eq (by rw [x_putWhole]) ?_
      exact Ku_c rfl (ih _ _ _)
    | 2 =>
      refine Ku_eq (by rw [x_putWhole]) ?_
      exact Ku_ite (Ku_c rfl (ih _ _ _)) (Ku_c rfl (ih _ _ _))
    | 3 =>
      refine Ku_eq (by rw [x_putWhole]) ?_
      exact Ku_ite (Ku_c rfl (ih _ _ _)) (Ku_ite (Ku_ite (Ku_no _) (Ku_ite (Ku_c rfl (ih _ _ _)) (Ku_no _))) (Ku_no _))
    | 4 =>
      refine Ku_eq (by rw [x_putWhole]) ?_
      exact Ku_ite (Ku_no _) (Ku_c rfl (ih _ _ _))
    | 5 =>
      refine Ku_eq (by rw [x_putWhole]) ?_
      exact Ku_ite (Ku_c rfl (ih _ _ _)) (Ku_no _)
    | 6 =>
      refine Ku_eq (by rw [x_putWhole]) ?_
      exact Ku_c rfl (ih _ _ _)
    | 7 =>
      refine Ku_eq (by rw [x_putWhole]) ?_
      exact Ku_ite (Ku_c rfl (ih _ _ _)) (Ku_ite (Ku_ite (Ku_c rfl (ih _ _ _)) (Ku_c rfl (ih _ _ _))) (Ku_no _))
    | 8 =>
      refine Ku_eq (by rw [x_putWhole]) ?_
      exact Ku_c rfl (ih _ _ _)
    | 9 =>
      refine Ku_eq (by rw [x_putWhole]) ?_
      exact Ku_ob (Ku_c rfl (ku_signOf _ _ _ _)) (fun _ h326 => Ku_ite (Ku_c h326 (ih _ _ _)) (Ku_ob (Ku_c h326 (ku_put _ _ _ _)) (fun _ h327 => Ku_c h327 (ih _ _ _))))
    | 10 =>
      refine Ku_eq (by rw [x_putWhole]) ?_
      exact Ku_c rfl (ih _ _ _)
    | 11 =>
      refine Ku_eq (by rw [x_putWhole]) ?_
      exact Ku_ite (Ku_c rfl (ih _ _ _)) (Ku_ite (Ku_ob (Ku_c rfl (ku_put _ _ _ _)) (fun _ h328 => Ku_c h328 (ih _ _ _))) (Ku_no _))
    | 12 =>
      refine Ku_eq (by rw [x_putWhole]) ?_
      exact Ku_so rfl
    | b + 13 =>
      refine Ku_eq (by rw [x_putWhole]) (Ku_no _)
theorem ku_s_putNumber {X : Nat → Nat → Nat → (Nat → Int32) → MS → Option (Int32 × MS)} (hX : ∀ e m b L (σ : MS), Ku (X e m b L σ) (ku σ)) (k d b : Nat) (L : Nat → Int32) (σ : MS) : Ku (s_putNumber X k d b L σ) (ku σ) := by
  match b with
  | 0 => exact Ku_ite (Ku_c rfl (hX _ _ _ _ _)) (Ku_od (fun _ => Ku_ob (Ku_c rfl (hX _ _ _ _ _)) (fun _ h329 => Ku_c h329 (hX _ _ _ _ _))))
  | 1 => exact Ku_ob (Ku_c rfl (ku_put _ _ _ _)) (fun _ h330 => Ku_so h330)
  | b + 2 => exact Ku_no _
theorem ku_GN : ∀ (k d m b : Nat) (L : Nat → Int32) (σ : MS), Ku (x_GN k d m b L σ) (ku σ) := by
  intro k
  induction k with
  | zero => intro d m b L σ; exact Ku_no _
  | succ k ih =>
    intro d m b L σ
    match m with
    | 0 => exact ku_s_putNumber ih k d b L σ
    | m + 1 => exact Ku_no _
theorem ku_putNumber (k b : Nat) (L : Nat → Int32) (σ : MS) : Ku (x_putNumber k b L σ) (ku σ) := ku_GN k 12 0 b L σ
theorem ku_s_print {X : Nat → Nat → Nat → (Nat → Int32) → MS → Option (Int32 × MS)} (hX : ∀ e m b L (σ : MS), Ku (X e m b L σ) (ku σ)) (k d b : Nat) (L : Nat → Int32) (σ : MS) : Ku (s_print X k d b L σ) (ku σ) := by
  match b with
  | 0 => exact Ku_ob (Ku_c rfl (ku_kind _ _ _ _)) (fun _ h331 => Ku_ite (Ku_ob (Ku_c h331 (ku_put _ _ _ _)) (fun _ h332 => Ku_ob (Ku_c h332 (ku_put _ _ _ _)) (fun _ h333 => Ku_c h333 (hX _ _ _ _ _)))) (Ku_c h331 (hX _ _ _ _ _)))
  | 1 => exact Ku_ite (Ku_ite (Ku_c rfl (hX _ _ _ _ _)) (Ku_c rfl (hX _ _ _ _ _))) (Ku_c rfl (hX _ _ _ _ _))
  | 2 => exact Ku_c rfl (hX _ _ _ _ _)
  | 3 => exact Ku_ob (Ku_c rfl (ku_putTruth _ _ _ _)) (fun _ h334 => Ku_c h334 (hX _ _ _ _ _))
  | 4 => exact Ku_ite (Ku_ob (Ku_c rfl (ku_putWhole _ _ _ _)) (fun _ h335 => Ku_c h335 (hX _ _ _ _ _))) (Ku_c rfl (hX _ _ _ _ _))
  | 5 => exact Ku_ite (Ku_ob (Ku_c rfl (ku_put _ _ _ _)) (fun _ h336 => Ku_ite (Ku_ob (Ku_c h336 (ku_putNumber _ _ _ _)) (fun _ h337 => Ku_c h337 (hX _ _ _ _ _))) (Ku_no _))) (Ku_c rfl (hX _ _ _ _ _))
  | 6 => exact Ku_ite (Ku_ite (Ku_ob (Ku_c rfl (ku_put _ _ _ _)) (fun _ h338 => Ku_c h338 (hX _ _ _ _ _))) (Ku_c rfl (hX _ _ _ _ _))) (Ku_c rfl (hX _ _ _ _ _))
  | 7 => exact Ku_c rfl (hX _ _ _ _ _)
  | 8 => exact Ku_ite (Ku_ite (Ku_c rfl (hX _ _ _ _ _)) (Ku_ite (Ku_ob (Ku_c rfl (ku_put _ _ _ _)) (fun _ h339 => Ku_c h339 (hX _ _ _ _ _))) (Ku_no _))) (Ku_no _)
  | 9 => exact Ku_ite (Ku_ob (Ku_c rfl (ku_put _ _ _ _)) (fun _ h340 => Ku_c h340 (hX _ _ _ _ _))) (Ku_c rfl (hX _ _ _ _ _))
  | 10 => exact Ku_ite (Ku_c rfl (hX _ _ _ _ _)) (Ku_c rfl (hX _ _ _ _ _))
  | 11 => exact Ku_c rfl (hX _ _ _ _ _)
  | 12 => exact Ku_ob (Ku_c rfl (ku_put _ _ _ _)) (fun _ h341 => Ku_c h341 (hX _ _ _ _ _))
  | 13 => exact Ku_ite (Ku_ite (Ku_c rfl (hX _ _ _ _ _)) (Ku_ite (Ku_c rfl (hX _ _ _ _ _)) (Ku_ob (Ku_c rfl (ku_put _ _ _ _)) (fun _ h342 => Ku_ob (Ku_c h342 (ku_put _ _ _ _)) (fun _ h343 => Ku_c h343 (hX _ _ _ _ _)))))) (Ku_no _)
  | 14 => exact Ku_ite (Ku_od (fun _ => Ku_ob (Ku_c rfl (hX _ _ _ _ _)) (fun _ h344 => Ku_c h344 (hX _ _ _ _ _)))) (Ku_no _)
  | 15 => exact Ku_ite (Ku_c rfl (hX _ _ _ _ _)) (Ku_c rfl (hX _ _ _ _ _))
  | 16 => exact Ku_c rfl (hX _ _ _ _ _)
  | 17 => exact Ku_ob (Ku_c rfl (ku_put _ _ _ _)) (fun _ h345 => Ku_c h345 (hX _ _ _ _ _))
  | 18 => exact Ku_so rfl
  | b + 19 => exact Ku_no _
theorem ku_GP : ∀ (k d m b : Nat) (L : Nat → Int32) (σ : MS), Ku (x_GP k d m b L σ) (ku σ) := by
  intro k
  induction k with
  | zero => intro d m b L σ; exact Ku_no _
  | succ k ih =>
    intro d m b L σ
    match m with
    | 0 => exact ku_s_print ih k d b L σ
    | m + 1 => exact Ku_no _
theorem ku_print (k b : Nat) (L : Nat → Int32) (σ : MS) : Ku (x_print k b L σ) (ku σ) := ku_GP k 40 0 b L σ
theorem ku_intOf : ∀ (k b : Nat) (L : Nat → Int32) (J : Nat → Int64) (σ : MS), Ku (x_intOf k b L J σ) (ku σ) := by
  intro k
  induction k with
  | zero => intro b L J σ; exact Ku_no _
  | succ k ih =>
    intro b L J σ
    match b with
    | 0 =>
      refine Ku_eq (by rw [x_intOf]) ?_
      exact Ku_ite (Ku_c rfl (ih _ _ _ _)) (Ku_no _)
    | 1 =>
      refine Ku_eq (by rw [x_intOf]) ?_
      exact Ku_ite (Ku_c rfl (ih _ _ _ _)) (Ku_ite (Ku_c rfl (ih _ _ _ _)) (Ku_c rfl (ih _ _ _ _)))
    | 2 =>
      refine Ku_eq (by rw [x_intOf]) ?_
      exact Ku_ite (Ku_c rfl (ih _ _ _ _)) (Ku_no _)
    | 3 =>
      refine Ku_eq (by rw [x_intOf]) ?_
      exact Ku_c rfl (ih _ _ _ _)
    | 4 =>
      refine Ku_eq (by rw [x_intOf]) ?_
      exact Ku_ite (Ku_c rfl (ih _ _ _ _)) (Ku_c rfl (ih _ _ _ _))
    | 5 =>
      refine Ku_eq (by rw [x_intOf]) ?_
      exact Ku_c rfl (ih _ _ _ _)
    | 6 =>
      refine Ku_eq (by rw [x_intOf]) ?_
      exact Ku_ob (Ku_c rfl (ku_signOf _ _ _ _)) (fun _ h346 => Ku_ite (Ku_c h346 (ih _ _ _ _)) (Ku_c h346 (ih _ _ _ _)))
    | 7 =>
      refine Ku_eq (by rw [x_intOf]) ?_
      exact Ku_c rfl (ih _ _ _ _)
    | 8 =>
      refine Ku_eq (by rw [x_intOf]) ?_
      exact Ku_so rfl
    | b + 9 =>
      refine Ku_eq (by rw [x_intOf]) (Ku_no _)
theorem ku_byteString : ∀ (k b : Nat) (L : Nat → Int32) (σ : MS), Ku (x_byteString k b L σ) (ku σ) := by
  intro k
  induction k with
  | zero => intro b L σ; exact Ku_no _
  | succ k ih =>
    intro b L σ
    match b with
    | 0 =>
      refine Ku_eq (by rw [x_byteString]) ?_
      exact Ku_ob (Ku_c rfl (ku_make _ _ _ _)) (fun _ h347 => Ku_ite (Ku_c h347 (ih _ _ _)) (Ku_so h347))
    | 1 =>
      refine Ku_eq (by rw [x_byteString]) ?_
      exact Ku_ite (Ku_c rfl (ih _ _ _)) (Ku_no _)
    | 2 =>
      refine Ku_eq (by rw [x_byteString]) ?_
      exact Ku_ite (Ku_c rfl (ih _ _ _)) (Ku_no _)
    | 3 =>
      refine Ku_eq (by rw [x_byteString]) ?_
      exact Ku_so rfl
    | b + 4 =>
      refine Ku_eq (by rw [x_byteString]) (Ku_no _)
theorem ku_character : ∀ (k b : Nat) (L : Nat → Int32) (σ : MS), Ku (x_character k b L σ) (ku σ) := by
  intro k
  induction k with
  | zero => intro b L σ; exact Ku_no _
  | succ k ih =>
    intro b L σ
    match b with
    | 0 =>
      refine Ku_eq (by rw [x_character]) ?_
      exact Ku_ob (Ku_c rfl (ku_kind _ _ _ _)) (fun _ h348 => Ku_ite (Ku_c h348 (ih _ _ _)) (Ku_ob (Ku_c h348 (ku_wrongKind _ _ _ _)) (fun _ h349 => Ku_so h349)))
    | 1 =>
      refine Ku_eq (by rw [x_character]) ?_
      exact Ku_ob (Ku_c rfl (ku_intOf _ _ _ _ _)) (fun _ h350 => Ku_ite (Ku_c h350 (ih _ _ _)) (Ku_ite (Ku_c h350 (ih _ _ _)) (Ku_c h350 (ih _ _ _))))
    | 2 =>
      refine Ku_eq (by rw [x_character]) ?_
      exact Ku_ob (Ku_c rfl (ku_fail _ _ _ _)) (fun _ h351 => Ku_so h351)
    | 3 =>
      refine Ku_eq (by rw [x_character]) ?_
      exact Ku_ob (Ku_c rfl (ku_byteString _ _ _ _)) (fun _ h352 => Ku_so h352)
    | b + 4 =>
      refine Ku_eq (by rw [x_character]) (Ku_no _)
theorem ku_small : ∀ (k b : Nat) (L : Nat → Int32) (σ : MS), Ku (x_small k b L σ) (ku σ) := by
  intro k
  induction k with
  | zero => intro b L σ; exact Ku_no _
  | succ k ih =>
    intro b L σ
    match b with
    | 0 =>
      refine Ku_eq (by rw [x_small]) ?_
      exact Ku_c rfl (ih _ _ _)
    | 1 =>
      refine Ku_eq (by rw [x_small]) ?_
      exact Ku_ite (Ku_c rfl (ih _ _ _)) (Ku_c rfl (ih _ _ _))
    | 2 =>
      refine Ku_eq (by rw [x_small]) ?_
      exact Ku_c rfl (ih _ _ _)
    | 3 =>
      refine Ku_eq (by rw [x_small]) ?_
      exact Ku_c rfl (ih _ _ _)
    | 4 =>
      refine Ku_eq (by rw [x_small]) ?_
      exact Ku_ite (Ku_c rfl (ih _ _ _)) (Ku_ite (Ku_c rfl (ih _ _ _)) (Ku_no _))
    | 5 =>
      refine Ku_eq (by rw [x_small]) ?_
      exact Ku_c rfl (ih _ _ _)
    | 6 =>
      refine Ku_eq (by rw [x_small]) ?_
      exact Ku_ite (Ku_c rfl (ih _ _ _)) (Ku_c rfl (ih _ _ _))
    | 7 =>
      refine Ku_eq (by rw [x_small]) ?_
      exact Ku_c rfl (ih _ _ _)
    | 8 =>
      refine Ku_eq (by rw [x_small]) ?_
      exact Ku_ob (Ku_c rfl (ku_wholeOf _ _ _ _)) (fun _ h353 => Ku_so h353)
    | b + 9 =>
      refine Ku_eq (by rw [x_small]) (Ku_no _)
theorem ku_codeOf : ∀ (k b : Nat) (L : Nat → Int32) (σ : MS), Ku (x_codeOf k b L σ) (ku σ) := by
  intro k
  induction k with
  | zero => intro b L σ; exact Ku_no _
  | succ k ih =>
    intro b L σ
    match b with
    | 0 =>
      refine Ku_eq (by rw [x_codeOf]) ?_
      exact Ku_ob (Ku_c rfl (ku_kind _ _ _ _)) (fun _ h354 => Ku_ite (Ku_c h354 (ih _ _ _)) (Ku_ob (Ku_c h354 (ku_wrongKind _ _ _ _)) (fun _ h355 => Ku_so h355)))
    | 1 =>
      refine Ku_eq (by rw [x_codeOf]) ?_
      exact Ku_ite (Ku_ite (Ku_c rfl (ih _ _ _)) (Ku_ob (Ku_c rfl (ku_fail _ _ _ _)) (fun _ h356 => Ku_so h356))) (Ku_no _)
    | 2 =>
      refine Ku_eq (by rw [x_codeOf]) ?_
      exact Ku_ite (Ku_ob (Ku_c rfl (ku_small _ _ _ _)) (fun _ h357 => Ku_so h357)) (Ku_no _)
    | b + 3 =>
      refine Ku_eq (by rw [x_codeOf]) (Ku_no _)
theorem ku_stringOf__51 : ∀ (k b : Nat) (L : Nat → Int32) (σ : MS), Ku (x_stringOf__51 k b L σ) (ku σ) := by
  intro k
  induction k with
  | zero => intro b L σ; exact Ku_no _
  | succ k ih =>
    intro b L σ
    match b with
    | 0 =>
      refine Ku_eq (by rw [x_stringOf__51]) ?_
      exact Ku_ite (Ku_no _) (Ku_ite (Ku_c rfl (ih _ _ _)) (Ku_ob (Ku_c rfl (ku_fail _ _ _ _)) (fun _ h358 => Ku_so h358)))
    | 1 =>
      refine Ku_eq (by rw [x_stringOf__51]) ?_
      exact Ku_ob (Ku_c rfl (ku_make _ _ _ _)) (fun _ h359 => Ku_c h359 (ih _ _ _))
    | 2 =>
      refine Ku_eq (by rw [x_stringOf__51]) ?_
      exact Ku_ite (Ku_c rfl (ih _ _ _)) (Ku_ite (Ku_ite (Ku_ite (Ku_c rfl (ih _ _ _)) (Ku_no _)) (Ku_no _)) (Ku_c rfl (ih _ _ _)))
    | 3 =>
      refine Ku_eq (by rw [x_stringOf__51]) ?_
      exact Ku_c rfl (ih _ _ _)
    | 4 =>
      refine Ku_eq (by rw [x_stringOf__51]) ?_
      exact Ku_ite (Ku_no _) (Ku_ite (Ku_c rfl (ih _ _ _)) (Ku_no _))
    | 5 =>
      refine Ku_eq (by rw [x_stringOf__51]) ?_
      exact Ku_so rfl
    | b + 6 =>
      refine Ku_eq (by rw [x_stringOf__51]) (Ku_no _)
theorem ku_tupleOf : ∀ (k b : Nat) (L : Nat → Int32) (σ : MS), Ku (x_tupleOf k b L σ) (ku σ) := by
  intro k
  induction k with
  | zero => intro b L σ; exact Ku_no _
  | succ k ih =>
    intro b L σ
    match b with
    | 0 =>
      refine Ku_eq (by rw [x_tupleOf]) ?_
      exact Ku_c rfl (ih _ _ _)
    | 1 =>
      refine Ku_eq (by rw [x_tupleOf]) ?_
      exact Ku_ite (Ku_c rfl (ih _ _ _)) (Ku_ite (Ku_ite (Ku_c rfl (ih _ _ _)) (Ku_c rfl (ih _ _ _))) (Ku_no _))
    | 2 =>
      refine Ku_eq (by rw [x_tupleOf]) ?_
      exact Ku_c rfl (ih _ _ _)
    | 3 =>
      refine Ku_eq (by rw [x_tupleOf]) ?_
      exact Ku_ob (Ku_c rfl (ku_make _ _ _ _)) (fun _ h360 => Ku_ite (Ku_c h360 (ih _ _ _)) (Ku_so h360))
    | 4 =>
      refine Ku_eq (by rw [x_tupleOf]) ?_
      exact Ku_c rfl (ih _ _ _)
    | 5 =>
      refine Ku_eq (by rw [x_tupleOf]) ?_
      exact Ku_ite (Ku_c rfl (ih _ _ _)) (Ku_ite (Ku_ite (Ku_c rfl (ih _ _ _)) (Ku_no _)) (Ku_no _))
    | 6 =>
      refine Ku_eq (by rw [x_tupleOf]) ?_
      exact Ku_c rfl (ih _ _ _)
    | 7 =>
      refine Ku_eq (by rw [x_tupleOf]) ?_
      exact Ku_ob (Ku_c rfl (ku_measured _ _ _ _)) (fun _ h361 => Ku_so h361)
    | b + 8 =>
      refine Ku_eq (by rw [x_tupleOf]) (Ku_no _)
theorem ku_reversed : ∀ (k b : Nat) (L : Nat → Int32) (σ : MS), Ku (x_reversed k b L σ) (ku σ) := by
  intro k
  induction k with
  | zero => intro b L σ; exact Ku_no _
  | succ k ih =>
    intro b L σ
    match b with
    | 0 =>
      refine Ku_eq (by rw [x_reversed]) ?_
      exact Ku_ob (Ku_c rfl (ku_kind _ _ _ _)) (fun _ h362 => Ku_ite (Ku_c h362 (ih _ _ _)) (Ku_ite (Ku_c h362 (ih _ _ _)) (Ku_ob (Ku_c h362 (ku_wrongKind _ _ _ _)) (fun _ h363 => Ku_so h363))))
    | 1 =>
      refine Ku_eq (by rw [x_reversed]) ?_
      exact Ku_ite (Ku_ite (Ku_c rfl (ih _ _ _)) (Ku_c rfl (ih _ _ _))) (Ku_no _)
    | 2 =>
      refine Ku_eq (by rw [x_reversed]) ?_
      exact Ku_ite (Ku_c rfl (ih _ _ _)) (Ku_ite (Ku_ite (Ku_c rfl (ih _ _ _)) (Ku_no _)) (Ku_no _))
    | 3 =>
      refine Ku_eq (by rw [x_reversed]) ?_
      exact Ku_c rfl (ih _ _ _)
    | 4 =>
      refine Ku_eq (by rw [x_reversed]) ?_
      exact Ku_ob (Ku_c rfl (ku_stringOf__51 _ _ _ _)) (fun _ h364 => Ku_so h364)
    | 5 =>
      refine Ku_eq (by rw [x_reversed]) ?_
      exact Ku_c rfl (ih _ _ _)
    | 6 =>
      refine Ku_eq (by rw [x_reversed]) ?_
      exact Ku_ite (Ku_c rfl (ih _ _ _)) (Ku_ite (Ku_ob (Ku_c rfl (ku_push _ _ _ _)) (fun _ h365 => Ku_c h365 (ih _ _ _))) (Ku_no _))
    | 7 =>
      refine Ku_eq (by rw [x_reversed]) ?_
      exact Ku_ob (Ku_c rfl (ku_tupleOf _ _ _ _)) (fun _ h366 => Ku_so h366)
    | b + 8 =>
      refine Ku_eq (by rw [x_reversed]) (Ku_no _)
theorem ku_draw : ∀ (k b : Nat) (L : Nat → Int32) (σ : MS), Ku (x_draw k b L σ) (ku σ) := by
  intro k
  induction k with
  | zero => intro b L σ; exact Ku_no _
  | succ k ih =>
    intro b L σ
    match b with
    | 0 =>
      refine Ku_eq (by rw [x_draw]) ?_
      exact Ku_c rfl (ih _ _ _)
    | 1 =>
      refine Ku_eq (by rw [x_draw]) ?_
      exact Ku_ite (Ku_no _) (Ku_so rfl)
    | b + 2 =>
      refine Ku_eq (by rw [x_draw]) (Ku_no _)
theorem ku_memberAt : ∀ (k b : Nat) (L : Nat → Int32) (σ : MS), Ku (x_memberAt k b L σ) (ku σ) := by
  intro k
  induction k with
  | zero => intro b L σ; exact Ku_no _
  | succ k ih =>
    intro b L σ
    match b with
    | 0 =>
      refine Ku_eq (by rw [x_memberAt]) ?_
      exact Ku_ite (Ku_ite (Ku_ite (Ku_ob (Ku_c rfl (ku_byteString _ _ _ _)) (fun _ h367 => Ku_c h367 (ih _ _ _))) (Ku_no _)) (Ku_c rfl (ih _ _ _))) (Ku_no _)
    | 1 =>
      refine Ku_eq (by rw [x_memberAt]) ?_
      exact Ku_ite (Ku_c rfl (ih _ _ _)) (Ku_no _)
    | 2 =>
      refine Ku_eq (by rw [x_memberAt]) ?_
      exact Ku_so rfl
    | b + 3 =>
      refine Ku_eq (by rw [x_memberAt]) (Ku_no _)
theorem ku_drawn : ∀ (k b : Nat) (L : Nat → Int32) (σ : MS), Ku (x_drawn k b L σ) (ku σ) := by
  intro k
  induction k with
  | zero => intro b L σ; exact Ku_no _
  | succ k ih =>
    intro b L σ
    match b with
    | 0 =>
      refine Ku_eq (by rw [x_drawn]) ?_
      exact Ku_ob (Ku_c rfl (ku_kind _ _ _ _)) (fun _ h368 => Ku_ite (Ku_ite (Ku_ite (Ku_c h368 (ih _ _ _)) (Ku_c h368 (ih _ _ _))) (Ku_no _)) (Ku_c h368 (ih _ _ _)))
    | 1 =>
      refine Ku_eq (by rw [x_drawn]) ?_
      exact Ku_ob (Ku_c rfl (ku_intOf _ _ _ _ _)) (fun _ h369 => Ku_c h369 (ih _ _ _))
    | 2 =>
      refine Ku_eq (by rw [x_drawn]) ?_
      exact Ku_ite (Ku_ite (Ku_ob (Ku_c rfl (ku_signOf _ _ _ _)) (fun _ h370 => Ku_ite (Ku_c h370 (ih _ _ _)) (Ku_ite (Ku_ite (Ku_ite (Ku_ite (Ku_c h370 (ih _ _ _)) (Ku_c h370 (ih _ _ _))) (Ku_no _)) (Ku_c h370 (ih _ _ _))) (Ku_no _)))) (Ku_c rfl (ih _ _ _))) (Ku_no _)
    | 3 =>
      refine Ku_eq (by rw [x_drawn]) ?_
      exact Ku_c rfl (ih _ _ _)
    | 4 =>
      refine Ku_eq (by rw [x_drawn]) ?_
      exact Ku_ite (Ku_c rfl (ih _ _ _)) (Ku_ite (Ku_ite (Ku_c rfl (ih _ _ _)) (Ku_c rfl (ih _ _ _))) (Ku_c rfl (ih _ _ _)))
    | 5 =>
      refine Ku_eq (by rw [x_drawn]) ?_
      exact Ku_ob (Ku_c rfl (ku_fail _ _ _ _)) (fun _ h371 => Ku_so h371)
    | 6 =>
      refine Ku_eq (by rw [x_drawn]) ?_
      exact Ku_ite (Ku_c rfl (ih _ _ _)) (Ku_c rfl (ih _ _ _))
    | 7 =>
      refine Ku_eq (by rw [x_drawn]) ?_
      exact Ku_c rfl (ih _ _ _)
    | 8 =>
      refine Ku_eq (by rw [x_drawn]) ?_
      exact Ku_ob (Ku_c rfl (ku_draw _ _ _ _)) (fun _ h372 => Ku_ob (Ku_c h372 (ku_small _ _ _ _)) (fun _ h373 => Ku_so h373))
    | 9 =>
      refine Ku_eq (by rw [x_drawn]) ?_
      exact Ku_ite (Ku_c rfl (ih _ _ _)) (Ku_ob (Ku_c rfl (ku_wrongKind _ _ _ _)) (fun _ h374 => Ku_so h374))
    | 10 =>
      refine Ku_eq (by rw [x_drawn]) ?_
      exact Ku_ite (Ku_ite (Ku_c rfl (ih _ _ _)) (Ku_c rfl (ih _ _ _))) (Ku_no _)
    | 11 =>
      refine Ku_eq (by rw [x_drawn]) ?_
      exact Ku_ite (Ku_ob (Ku_c rfl (ku_draw _ _ _ _)) (fun _ h375 => Ku_ob (Ku_c h375 (ku_memberAt _ _ _ _)) (fun _ h376 => Ku_c h376 (ih _ _ _)))) (Ku_no _)
    | 12 =>
      refine Ku_eq (by rw [x_drawn]) ?_
      exact Ku_so rfl
    | b + 13 =>
      refine Ku_eq (by rw [x_drawn]) (Ku_no _)
theorem ku_function : ∀ (k b : Nat) (L : Nat → Int32) (σ : MS), Ku (x_function k b L σ) (ku σ) := by
  intro k
  induction k with
  | zero => intro b L σ; exact Ku_no _
  | succ k ih =>
    intro b L σ
    match b with
    | 0 =>
      refine Ku_eq (by rw [x_function]) ?_
      exact Ku_ob (Ku_c rfl (ku_kind _ _ _ _)) (fun _ h377 => Ku_ite (Ku_c h377 (ih _ _ _)) (Ku_ite (Ku_c h377 (ih _ _ _)) (Ku_ite (Ku_c h377 (ih _ _ _)) (Ku_ite (Ku_c h377 (ih _ _ _)) (Ku_ite (Ku_c h377 (ih _ _ _)) (Ku_ite (Ku_c h377 (ih _ _ _)) (Ku_ite (Ku_c h377 (ih _ _ _)) (Ku_ite (Ku_c h377 (ih _ _ _)) (Ku_ite (Ku_c h377 (ih _ _ _)) (Ku_ite (Ku_c h377 (ih _ _ _)) (Ku_ite (Ku_c h377 (ih _ _ _)) (Ku_ite (Ku_c h377 (ih _ _ _)) (Ku_c h377 (ih _ _ _))))))))))))))
    | 1 =>
      refine Ku_eq (by rw [x_function]) ?_
      exact Ku_ite (Ku_c rfl (ih _ _ _)) (Ku_ob (Ku_c rfl (ku_wrongKind _ _ _ _)) (fun _ h378 => Ku_c h378 (ih _ _ _)))
    | 2 =>
      refine Ku_eq (by rw [x_function]) ?_
      exact Ku_ob (Ku_c rfl (ku_signOf _ _ _ _)) (fun _ h379 => Ku_ite (Ku_c h379 (ih _ _ _)) (Ku_ob (Ku_c h379 (ku_other _ _ _ _)) (fun _ h380 => Ku_c h380 (ih _ _ _))))
    | 3 =>
      refine Ku_eq (by rw [x_function]) ?_
      exact Ku_c rfl (ih _ _ _)
    | 4 =>
      refine Ku_eq (by rw [x_function]) ?_
      exact Ku_so rfl
    | 5 =>
      refine Ku_eq (by rw [x_function]) ?_
      exact Ku_ite (Ku_c rfl (ih _ _ _)) (Ku_ob (Ku_c rfl (ku_wrongKind _ _ _ _)) (fun _ h381 => Ku_c h381 (ih _ _ _)))
    | 6 =>
      refine Ku_eq (by rw [x_function]) ?_
      exact Ku_ite (Ku_ite (Ku_c rfl (ih _ _ _)) (Ku_c rfl (ih _ _ _))) (Ku_no _)
    | 7 =>
      refine Ku_eq (by rw [x_function]) ?_
      exact Ku_ite (Ku_c rfl (ih _ _ _)) (Ku_no _)
    | 8 =>
      refine Ku_eq (by rw [x_function]) ?_
      exact Ku_so rfl
    | 9 =>
      refine Ku_eq (by rw [x_function]) ?_
      exact Ku_ob (Ku_c rfl (ku_side _ _ _ _)) (fun _ h382 => Ku_so h382)
    | 10 =>
      refine Ku_eq (by rw [x_function]) ?_
      exact Ku_ob (Ku_c rfl (ku_side _ _ _ _)) (fun _ h383 => Ku_so h383)
    | 11 =>
      refine Ku_eq (by rw [x_function]) ?_
      exact Ku_ob (Ku_c rfl (ku_powerSet _ _ _ _)) (fun _ h384 => Ku_so h384)
    | 12 =>
      refine Ku_eq (by rw [x_function]) ?_
      exact Ku_ob (Ku_c rfl (ku_typeOf _ _ _ _)) (fun _ h385 => Ku_so h385)
    | 13 =>
      refine Ku_eq (by rw [x_function]) ?_
      exact Ku_c rfl (ih _ _ _)
    | 14 =>
      refine Ku_eq (by rw [x_function]) ?_
      exact Ku_ob (Ku_c rfl (ku_print _ _ _ _)) (fun _ h386 => Ku_ob (Ku_c h386 (ku_stringOf__48 _ _ _ _)) (fun _ h387 => Ku_so h387))
    | 15 =>
      refine Ku_eq (by rw [x_function]) ?_
      exact Ku_ob (Ku_c rfl (ku_character _ _ _ _)) (fun _ h388 => Ku_so h388)
    | 16 =>
      refine Ku_eq (by rw [x_function]) ?_
      exact Ku_ob (Ku_c rfl (ku_codeOf _ _ _ _)) (fun _ h389 => Ku_so h389)
    | 17 =>
      refine Ku_eq (by rw [x_function]) ?_
      exact Ku_ob (Ku_c rfl (ku_reversed _ _ _ _)) (fun _ h390 => Ku_so h390)
    | 18 =>
      refine Ku_eq (by rw [x_function]) ?_
      exact Ku_ob (Ku_c rfl (ku_drawn _ _ _ _)) (fun _ h391 => Ku_so h391)
    | b + 19 =>
      refine Ku_eq (by rw [x_function]) (Ku_no _)
theorem ku_negative : ∀ (k b : Nat) (L : Nat → Int32) (σ : MS), Ku (x_negative k b L σ) (ku σ) := by
  intro k
  induction k with
  | zero => intro b L σ; exact Ku_no _
  | succ k ih =>
    intro b L σ
    match b with
    | 0 =>
      refine Ku_eq (by rw [x_negative]) ?_
      exact Ku_ob (Ku_c rfl (ku_kind _ _ _ _)) (fun _ h392 => Ku_ite (Ku_c h392 (ih _ _ _)) (Ku_ob (Ku_c h392 (ku_wrongKind _ _ _ _)) (fun _ h393 => Ku_c h393 (ih _ _ _))))
    | 1 =>
      refine Ku_eq (by rw [x_negative]) ?_
      exact Ku_ob (Ku_c rfl (ku_other _ _ _ _)) (fun _ h394 => Ku_c h394 (ih _ _ _))
    | 2 =>
      refine Ku_eq (by rw [x_negative]) ?_
      exact Ku_so rfl
    | b + 3 =>
      refine Ku_eq (by rw [x_negative]) (Ku_no _)
theorem ku_many : ∀ (k b : Nat) (L : Nat → Int32) (σ : MS), Ku (x_many k b L σ) (ku σ) := by
  intro k
  induction k with
  | zero => intro b L σ; exact Ku_no _
  | succ k ih =>
    intro b L σ
    match b with
    | 0 =>
      refine Ku_eq (by rw [x_many]) ?_
      exact Ku_ob (Ku_c rfl (ku_kind _ _ _ _)) (fun _ h395 => Ku_ite (Ku_c h395 (ih _ _ _)) (Ku_ob (Ku_c h395 (ku_fail _ _ _ _)) (fun _ h396 => Ku_so h396)))
    | 1 =>
      refine Ku_eq (by rw [x_many]) ?_
      exact Ku_ite (Ku_ob (Ku_c rfl (ku_small _ _ _ _)) (fun _ h397 => Ku_so h397)) (Ku_no _)
    | b + 2 =>
      refine Ku_eq (by rw [x_many]) (Ku_no _)
theorem ku_truth : ∀ (k b : Nat) (L : Nat → Int32) (σ : MS), Ku (x_truth k b L σ) (ku σ) := by
  intro k
  induction k with
  | zero => intro b L σ; exact Ku_no _
  | succ k ih =>
    intro b L σ
    match b with
    | 0 =>
      refine Ku_eq (by rw [x_truth]) ?_
      exact Ku_ite (Ku_c rfl (ih _ _ _)) (Ku_c rfl (ih _ _ _))
    | 1 =>
      refine Ku_eq (by rw [x_truth]) ?_
      exact Ku_c rfl (ih _ _ _)
    | 2 =>
      refine Ku_eq (by rw [x_truth]) ?_
      exact Ku_so rfl
    | b + 3 =>
      refine Ku_eq (by rw [x_truth]) (Ku_no _)
theorem ku_turned : ∀ (k b : Nat) (L : Nat → Int32) (σ : MS), Ku (x_turned k b L σ) (ku σ) := by
  intro k
  induction k with
  | zero => intro b L σ; exact Ku_no _
  | succ k ih =>
    intro b L σ
    match b with
    | 0 =>
      refine Ku_eq (by rw [x_turned]) ?_
      exact Ku_ite (Ku_c rfl (ih _ _ _)) (Ku_ite (Ku_c rfl (ih _ _ _)) (Ku_ob (Ku_c rfl (ku_fail _ _ _ _)) (fun _ h398 => Ku_c h398 (ih _ _ _))))
    | 1 =>
      refine Ku_eq (by rw [x_turned]) ?_
      exact Ku_ite (Ku_c rfl (ih _ _ _)) (Ku_c rfl (ih _ _ _))
    | 2 =>
      refine Ku_eq (by rw [x_turned]) ?_
      exact Ku_c rfl (ih _ _ _)
    | 3 =>
      refine Ku_eq (by rw [x_turned]) ?_
      exact Ku_ob (Ku_c rfl (ku_truth _ _ _ _)) (fun _ h399 => Ku_so h399)
    | b + 4 =>
      refine Ku_eq (by rw [x_turned]) (Ku_no _)
theorem ku_loadB : ∀ (k b : Nat) (L : Nat → Int32) (σ : MS), Ku (x_loadB k b L σ) (ku σ) := by
  intro k
  induction k with
  | zero => intro b L σ; exact Ku_no _
  | succ k ih =>
    intro b L σ
    match b with
    | 0 =>
      refine Ku_eq (by rw [x_loadB]) ?_
      exact Ku_ite (Ku_c rfl (ih _ _ _)) (Ku_no _)
    | 1 =>
      refine Ku_eq (by rw [x_loadB]) ?_
      exact Ku_c rfl (ih _ _ _)
    | 2 =>
      refine Ku_eq (by rw [x_loadB]) ?_
      exact Ku_ite (Ku_c rfl (ih _ _ _)) (Ku_ite (Ku_ite (Ku_c rfl (ih _ _ _)) (Ku_no _)) (Ku_no _))
    | 3 =>
      refine Ku_eq (by rw [x_loadB]) ?_
      exact Ku_c rfl (ih _ _ _)
    | 4 =>
      refine Ku_eq (by rw [x_loadB]) ?_
      exact Ku_so rfl
    | b + 5 =>
      refine Ku_eq (by rw [x_loadB]) (Ku_no _)
theorem ku_compareRows__42__43 : ∀ (k b : Nat) (L : Nat → Int32) (σ : MS), Ku (x_compareRows__42__43 k b L σ) (ku σ) := by
  intro k
  induction k with
  | zero => intro b L σ; exact Ku_no _
  | succ k ih =>
    intro b L σ
    match b with
    | 0 =>
      refine Ku_eq (by rw [x_compareRows__42__43]) ?_
      exact Ku_c rfl (ih _ _ _)
    | 1 =>
      refine Ku_eq (by rw [x_compareRows__42__43]) ?_
      exact Ku_ite (Ku_c rfl (ih _ _ _)) (Ku_ite (Ku_ite (Ku_ite (Ku_c rfl (ih _ _ _)) (Ku_no _)) (Ku_no _)) (Ku_c rfl (ih _ _ _)))
    | 2 =>
      refine Ku_eq (by rw [x_compareRows__42__43]) ?_
      exact Ku_so rfl
    | b + 3 =>
      refine Ku_eq (by rw [x_compareRows__42__43]) (Ku_no _)
theorem ku_add : ∀ (k b : Nat) (L : Nat → Int32) (σ : MS), Ku (x_add k b L σ) (ku σ) := by
  intro k
  induction k with
  | zero => intro b L σ; exact Ku_no _
  | succ k ih =>
    intro b L σ
    match b with
    | 0 =>
      refine Ku_eq (by rw [x_add]) ?_
      exact Ku_ob (Ku_c rfl (ku_loadA _ _ _ _)) (fun _ h400 => Ku_ob (Ku_c h400 (ku_loadB _ _ _ _)) (fun _ h401 => Ku_ob (Ku_c h401 (ku_signOf _ _ _ _)) (fun _ h402 => Ku_ob (Ku_c h402 (ku_signOf _ _ _ _)) (fun _ h403 => Ku_ite (Ku_c h403 (ih _ _ _)) (Ku_ite (Ku_c h403 (ih _ _ _)) (Ku_ite (Ku_c h403 (ih _ _ _)) (Ku_c h403 (ih _ _ _))))))))
    | 1 =>
      refine Ku_eq (by rw [x_add]) ?_
      exact Ku_ite (Ku_c rfl (ih _ _ _)) (Ku_c rfl (ih _ _ _))
    | 2 =>
      refine Ku_eq (by rw [x_add]) ?_
      exact Ku_c rfl (ih _ _ _)
    | 3 =>
      refine Ku_eq (by rw [x_add]) ?_
      exact Ku_c rfl (ih _ _ _)
    | 4 =>
      refine Ku_eq (by rw [x_add]) ?_
      exact Ku_c rfl (ih _ _ _)
    | 5 =>
      refine Ku_eq (by rw [x_add]) ?_
      exact Ku_ite (Ku_c rfl (ih _ _ _)) (Ku_ite (Ku_c rfl (ih _ _ _)) (Ku_ite (Ku_c rfl (ih _ _ _)) (Ku_no _)))
    | 6 =>
      refine Ku_eq (by rw [x_add]) ?_
      exact Ku_c rfl (ih _ _ _)
    | 7 =>
      refine Ku_eq (by rw [x_add]) ?_
      exact Ku_ite (Ku_c rfl (ih _ _ _)) (Ku_ite (Ku_c rfl (ih _ _ _)) (Ku_no _))
    | 8 =>
      refine Ku_eq (by rw [x_add]) ?_
      exact Ku_c rfl (ih _ _ _)
    | 9 =>
      refine Ku_eq (by rw [x_add]) ?_
      exact Ku_ite (Ku_c rfl (ih _ _ _)) (Ku_no _)
    | 10 =>
      refine Ku_eq (by rw [x_add]) ?_
      exact Ku_c rfl (ih _ _ _)
    | 11 =>
      refine Ku_eq (by rw [x_add]) ?_
      exact Ku_ite (Ku_c rfl (ih _ _ _)) (Ku_ite (Ku_c rfl (ih _ _ _)) (Ku_no _))
    | 12 =>
      refine Ku_eq (by rw [x_add]) ?_
      exact Ku_c rfl (ih _ _ _)
    | 13 =>
      refine Ku_eq (by rw [x_add]) ?_
      exact Ku_ite (Ku_c rfl (ih _ _ _)) (Ku_c rfl (ih _ _ _))
    | 14 =>
      refine Ku_eq (by rw [x_add]) ?_
      exact Ku_c rfl (ih _ _ _)
    | 15 =>
      refine Ku_eq (by rw [x_add]) ?_
      exact Ku_ob (Ku_c rfl (ku_wholeOf _ _ _ _)) (fun _ h404 => Ku_so h404)
    | 16 =>
      refine Ku_eq (by rw [x_add]) ?_
      exact Ku_ob (Ku_c rfl (ku_compareRows__42__43 _ _ _ _)) (fun _ h405 => Ku_ite (Ku_c h405 (ih _ _ _)) (Ku_c h405 (ih _ _ _)))
    | 17 =>
      refine Ku_eq (by rw [x_add]) ?_
      exact Ku_c rfl (ih _ _ _)
    | 18 =>
      refine Ku_eq (by rw [x_add]) ?_
      exact Ku_c rfl (ih _ _ _)
    | 19 =>
      refine Ku_eq (by rw [x_add]) ?_
      exact Ku_c rfl (ih _ _ _)
    | 20 =>
      refine Ku_eq (by rw [x_add]) ?_
      exact Ku_ite (Ku_c rfl (ih _ _ _)) (Ku_ite (Ku_c rfl (ih _ _ _)) (Ku_ite (Ku_c rfl (ih _ _ _)) (Ku_no _)))
    | 21 =>
      refine Ku_eq (by rw [x_add]) ?_
      exact Ku_c rfl (ih _ _ _)
    | 22 =>
      refine Ku_eq (by rw [x_add]) ?_
      exact Ku_ite (Ku_c rfl (ih _ _ _)) (Ku_ite (Ku_c rfl (ih _ _ _)) (Ku_no _))
    | 23 =>
      refine Ku_eq (by rw [x_add]) ?_
      exact Ku_c rfl (ih _ _ _)
    | 24 =>
      refine Ku_eq (by rw [x_add]) ?_
      exact Ku_ite (Ku_c rfl (ih _ _ _)) (Ku_c rfl (ih _ _ _))
    | 25 =>
      refine Ku_eq (by rw [x_add]) ?_
      exact Ku_c rfl (ih _ _ _)
    | 26 =>
      refine Ku_eq (by rw [x_add]) ?_
      exact Ku_ite (Ku_c rfl (ih _ _ _)) (Ku_c rfl (ih _ _ _))
    | 27 =>
      refine Ku_eq (by rw [x_add]) ?_
      exact Ku_c rfl (ih _ _ _)
    | 28 =>
      refine Ku_eq (by rw [x_add]) ?_
      exact Ku_ite (Ku_c rfl (ih _ _ _)) (Ku_no _)
    | 29 =>
      refine Ku_eq (by rw [x_add]) ?_
      exact Ku_c rfl (ih _ _ _)
    | 30 =>
      refine Ku_eq (by rw [x_add]) ?_
      exact Ku_ite (Ku_c rfl (ih _ _ _)) (Ku_c rfl (ih _ _ _))
    | 31 =>
      refine Ku_eq (by rw [x_add]) ?_
      exact Ku_c rfl (ih _ _ _)
    | 32 =>
      refine Ku_eq (by rw [x_add]) ?_
      exact Ku_ob (Ku_c rfl (ku_wholeOf _ _ _ _)) (fun _ h406 => Ku_so h406)
    | b + 33 =>
      refine Ku_eq (by rw [x_add]) (Ku_no _)
theorem ku_joined : ∀ (k b : Nat) (L : Nat → Int32) (σ : MS), Ku (x_joined k b L σ) (ku σ) := by
  intro k
  induction k with
  | zero => intro b L σ; exact Ku_no _
  | succ k ih =>
    intro b L σ
    match b with
    | 0 =>
      refine Ku_eq (by rw [x_joined]) ?_
      exact Ku_ite (Ku_ite (Ku_c rfl (ih _ _ _)) (Ku_no _)) (Ku_no _)
    | 1 =>
      refine Ku_eq (by rw [x_joined]) ?_
      exact Ku_ite (Ku_c rfl (ih _ _ _)) (Ku_ite (Ku_ite (Ku_c rfl (ih _ _ _)) (Ku_no _)) (Ku_no _))
    | 2 =>
      refine Ku_eq (by rw [x_joined]) ?_
      exact Ku_c rfl (ih _ _ _)
    | 3 =>
      refine Ku_eq (by rw [x_joined]) ?_
      exact Ku_c rfl (ih _ _ _)
    | 4 =>
      refine Ku_eq (by rw [x_joined]) ?_
      exact Ku_ite (Ku_c rfl (ih _ _ _)) (Ku_ite (Ku_ite (Ku_c rfl (ih _ _ _)) (Ku_no _)) (Ku_no _))
    | 5 =>
      refine Ku_eq (by rw [x_joined]) ?_
      exact Ku_c rfl (ih _ _ _)
    | 6 =>
      refine Ku_eq (by rw [x_joined]) ?_
      exact Ku_ob (Ku_c rfl (ku_stringOf__51 _ _ _ _)) (fun _ h407 => Ku_so h407)
    | b + 7 =>
      refine Ku_eq (by rw [x_joined]) (Ku_no _)
theorem ku_plus : ∀ (k b : Nat) (L : Nat → Int32) (σ : MS), Ku (x_plus k b L σ) (ku σ) := by
  intro k
  induction k with
  | zero => intro b L σ; exact Ku_no _
  | succ k ih =>
    intro b L σ
    match b with
    | 0 =>
      refine Ku_eq (by rw [x_plus]) ?_
      exact Ku_ob (Ku_c rfl (ku_kind _ _ _ _)) (fun _ h408 => Ku_ob (Ku_c h408 (ku_kind _ _ _ _)) (fun _ h409 => Ku_ite (Ku_ite (Ku_c h409 (ih _ _ _)) (Ku_ite (Ku_c h409 (ih _ _ _)) (Ku_c h409 (ih _ _ _)))) (Ku_c h409 (ih _ _ _))))
    | 1 =>
      refine Ku_eq (by rw [x_plus]) ?_
      exact Ku_ob (Ku_c rfl (ku_wrongKind _ _ _ _)) (fun _ h410 => Ku_so h410)
    | 2 =>
      refine Ku_eq (by rw [x_plus]) ?_
      exact Ku_ite (Ku_ob (Ku_c rfl (ku_add _ _ _ _)) (fun _ h411 => Ku_so h411)) (Ku_c rfl (ih _ _ _))
    | 3 =>
      refine Ku_eq (by rw [x_plus]) ?_
      exact Ku_ite (Ku_ob (Ku_c rfl (ku_joined _ _ _ _)) (fun _ h412 => Ku_so h412)) (Ku_c rfl (ih _ _ _))
    | 4 =>
      refine Ku_eq (by rw [x_plus]) ?_
      exact Ku_c rfl (ih _ _ _)
    | 5 =>
      refine Ku_eq (by rw [x_plus]) ?_
      exact Ku_ite (Ku_ite (Ku_c rfl (ih _ _ _)) (Ku_ite (Ku_ob (Ku_c rfl (ku_push _ _ _ _)) (fun _ h413 => Ku_c h413 (ih _ _ _))) (Ku_no _))) (Ku_no _)
    | 6 =>
      refine Ku_eq (by rw [x_plus]) ?_
      exact Ku_c rfl (ih _ _ _)
    | 7 =>
      refine Ku_eq (by rw [x_plus]) ?_
      exact Ku_ite (Ku_ite (Ku_c rfl (ih _ _ _)) (Ku_ite (Ku_ob (Ku_c rfl (ku_push _ _ _ _)) (fun _ h414 => Ku_c h414 (ih _ _ _))) (Ku_no _))) (Ku_no _)
    | 8 =>
      refine Ku_eq (by rw [x_plus]) ?_
      exact Ku_ite (Ku_ob (Ku_c rfl (ku_setOf _ _ _ _)) (fun _ h415 => Ku_c h415 (ih _ _ _))) (Ku_c rfl (ih _ _ _))
    | 9 =>
      refine Ku_eq (by rw [x_plus]) ?_
      exact Ku_ob (Ku_c rfl (ku_tupleOf _ _ _ _)) (fun _ h416 => Ku_c h416 (ih _ _ _))
    | 10 =>
      refine Ku_eq (by rw [x_plus]) ?_
      exact Ku_so rfl
    | b + 11 =>
      refine Ku_eq (by rw [x_plus]) (Ku_no _)
theorem ku_has : ∀ (k b : Nat) (L : Nat → Int32) (σ : MS), Ku (x_has k b L σ) (ku σ) := by
  intro k
  induction k with
  | zero => intro b L σ; exact Ku_no _
  | succ k ih =>
    intro b L σ
    match b with
    | 0 =>
      refine Ku_eq (by rw [x_has]) ?_
      exact Ku_ite (Ku_c rfl (ih _ _ _)) (Ku_no _)
    | 1 =>
      refine Ku_eq (by rw [x_has]) ?_
      exact Ku_ite (Ku_c rfl (ih _ _ _)) (Ku_ite (Ku_no _) (Ku_ite (Ku_ob (Ku_c rfl (ku_compare _ _ _ _)) (fun _ h417 => Ku_ite (Ku_so h417) (Ku_c h417 (ih _ _ _)))) (Ku_no _)))
    | 2 =>
      refine Ku_eq (by rw [x_has]) ?_
      exact Ku_ite (Ku_c rfl (ih _ _ _)) (Ku_c rfl (ih _ _ _))
    | 3 =>
      refine Ku_eq (by rw [x_has]) ?_
      exact Ku_c rfl (ih _ _ _)
    | 4 =>
      refine Ku_eq (by rw [x_has]) ?_
      exact Ku_ite (Ku_c rfl (ih _ _ _)) (Ku_c rfl (ih _ _ _))
    | 5 =>
      refine Ku_eq (by rw [x_has]) ?_
      exact Ku_c rfl (ih _ _ _)
    | 6 =>
      refine Ku_eq (by rw [x_has]) ?_
      exact Ku_c rfl (ih _ _ _)
    | 7 =>
      refine Ku_eq (by rw [x_has]) ?_
      exact Ku_so rfl
    | b + 8 =>
      refine Ku_eq (by rw [x_has]) (Ku_no _)
theorem ku_sift : ∀ (k b : Nat) (L : Nat → Int32) (σ : MS), Ku (x_sift k b L σ) (ku σ) := by
  intro k
  induction k with
  | zero => intro b L σ; exact Ku_no _
  | succ k ih =>
    intro b L σ
    match b with
    | 0 =>
      refine Ku_eq (by rw [x_sift]) ?_
      exact Ku_c rfl (ih _ _ _)
    | 1 =>
      refine Ku_eq (by rw [x_sift]) ?_
      exact Ku_ite (Ku_ite (Ku_c rfl (ih _ _ _)) (Ku_ite (Ku_ob (Ku_c rfl (ku_has _ _ _ _)) (fun _ h418 => Ku_ite (Ku_ite (Ku_ob (Ku_c h418 (ku_push _ _ _ _)) (fun _ h419 => Ku_c h419 (ih _ _ _))) (Ku_no _)) (Ku_c h418 (ih _ _ _)))) (Ku_no _))) (Ku_no _)
    | 2 =>
      refine Ku_eq (by rw [x_sift]) ?_
      exact Ku_c rfl (ih _ _ _)
    | 3 =>
      refine Ku_eq (by rw [x_sift]) ?_
      exact Ku_ob (Ku_c rfl (ku_setOf _ _ _ _)) (fun _ h420 => Ku_so h420)
    | b + 4 =>
      refine Ku_eq (by rw [x_sift]) (Ku_no _)
theorem ku_multiply : ∀ (k b : Nat) (L : Nat → Int32) (J : Nat → Int64) (σ : MS), Ku (x_multiply k b L J σ) (ku σ) := by
  intro k
  induction k with
  | zero => intro b L J σ; exact Ku_no _
  | succ k ih =>
    intro b L J σ
    match b with
    | 0 =>
      refine Ku_eq (by rw [x_multiply]) ?_
      exact Ku_ob (Ku_c rfl (ku_loadA _ _ _ _)) (fun _ h421 => Ku_ob (Ku_c h421 (ku_loadB _ _ _ _)) (fun _ h422 => Ku_c h422 (ih _ _ _ _)))
    | 1 =>
      refine Ku_eq (by rw [x_multiply]) ?_
      exact Ku_c rfl (ih _ _ _ _)
    | 2 =>
      refine Ku_eq (by rw [x_multiply]) ?_
      exact Ku_ite (Ku_c rfl (ih _ _ _ _)) (Ku_ite (Ku_c rfl (ih _ _ _ _)) (Ku_no _))
    | 3 =>
      refine Ku_eq (by rw [x_multiply]) ?_
      exact Ku_c rfl (ih _ _ _ _)
    | 4 =>
      refine Ku_eq (by rw [x_multiply]) ?_
      exact Ku_c rfl (ih _ _ _ _)
    | 5 =>
      refine Ku_eq (by rw [x_multiply]) ?_
      exact Ku_ite (Ku_c rfl (ih _ _ _ _)) (Ku_c rfl (ih _ _ _ _))
    | 6 =>
      refine Ku_eq (by rw [x_multiply]) ?_
      exact Ku_ite (Ku_c rfl (ih _ _ _ _)) (Ku_ite (Ku_ite (Ku_ite (Ku_ite (Ku_c rfl (ih _ _ _ _)) (Ku_no _)) (Ku_no _)) (Ku_no _)) (Ku_no _))
    | 7 =>
      refine Ku_eq (by rw [x_multiply]) ?_
      exact Ku_c rfl (ih _ _ _ _)
    | 8 =>
      refine Ku_eq (by rw [x_multiply]) ?_
      exact Ku_ite (Ku_c rfl (ih _ _ _ _)) (Ku_no _)
    | 9 =>
      refine Ku_eq (by rw [x_multiply]) ?_
      exact Ku_c rfl (ih _ _ _ _)
    | 10 =>
      refine Ku_eq (by rw [x_multiply]) ?_
      exact Ku_ob (Ku_c rfl (ku_signOf _ _ _ _)) (fun _ h423 => Ku_ob (Ku_c h423 (ku_signOf _ _ _ _)) (fun _ h424 => Ku_ob (Ku_c h424 (ku_wholeOf _ _ _ _)) (fun _ h425 => Ku_so h425)))
    | b + 11 =>
      refine Ku_eq (by rw [x_multiply]) (Ku_no _)
theorem ku_repeat : ∀ (k b : Nat) (L : Nat → Int32) (σ : MS), Ku (x_repeat k b L σ) (ku σ) := by
  intro k
  induction k with
  | zero => intro b L σ; exact Ku_no _
  | succ k ih =>
    intro b L σ
    match b with
    | 0 =>
      refine Ku_eq (by rw [x_repeat]) ?_
      exact Ku_ob (Ku_c rfl (ku_signOf _ _ _ _)) (fun _ h426 => Ku_ite (Ku_c h426 (ih _ _ _)) (Ku_ob (Ku_c h426 (ku_fail _ _ _ _)) (fun _ h427 => Ku_so h427)))
    | 1 =>
      refine Ku_eq (by rw [x_repeat]) ?_
      exact Ku_ite (Ku_ite (Ku_c rfl (ih _ _ _)) (Ku_c rfl (ih _ _ _))) (Ku_no _)
    | 2 =>
      refine Ku_eq (by rw [x_repeat]) ?_
      exact Ku_ob (Ku_c rfl (ku_intOf _ _ _ _ _)) (fun _ h428 => Ku_c h428 (ih _ _ _))
    | 3 =>
      refine Ku_eq (by rw [x_repeat]) ?_
      exact Ku_ite (Ku_c rfl (ih _ _ _)) (Ku_ob (Ku_c rfl (ku_fail _ _ _ _)) (fun _ h429 => Ku_so h429))
    | 4 =>
      refine Ku_eq (by rw [x_repeat]) ?_
      exact Ku_ite (Ku_ite (Ku_c rfl (ih _ _ _)) (Ku_c rfl (ih _ _ _))) (Ku_no _)
    | 5 =>
      refine Ku_eq (by rw [x_repeat]) ?_
      exact Ku_ite (Ku_c rfl (ih _ _ _)) (Ku_ite (Ku_no _) (Ku_ite (Ku_ite (Ku_c rfl (ih _ _ _)) (Ku_no _)) (Ku_no _)))
    | 6 =>
      refine Ku_eq (by rw [x_repeat]) ?_
      exact Ku_c rfl (ih _ _ _)
    | 7 =>
      refine Ku_eq (by rw [x_repeat]) ?_
      exact Ku_ob (Ku_c rfl (ku_stringOf__51 _ _ _ _)) (fun _ h430 => Ku_so h430)
    | 8 =>
      refine Ku_eq (by rw [x_repeat]) ?_
      exact Ku_c rfl (ih _ _ _)
    | 9 =>
      refine Ku_eq (by rw [x_repeat]) ?_
      exact Ku_ite (Ku_c rfl (ih _ _ _)) (Ku_ite (Ku_no _) (Ku_ite (Ku_ob (Ku_c rfl (ku_push _ _ _ _)) (fun _ h431 => Ku_c h431 (ih _ _ _))) (Ku_no _)))
    | 10 =>
      refine Ku_eq (by rw [x_repeat]) ?_
      exact Ku_ob (Ku_c rfl (ku_tupleOf _ _ _ _)) (fun _ h432 => Ku_so h432)
    | b + 11 =>
      refine Ku_eq (by rw [x_repeat]) (Ku_no _)
theorem ku_rowsTimes : ∀ (k b : Nat) (L : Nat → Int32) (J : Nat → Int64) (σ : MS), Ku (x_rowsTimes k b L J σ) (ku σ) := by
  intro k
  induction k with
  | zero => intro b L J σ; exact Ku_no _
  | succ k ih =>
    intro b L J σ
    match b with
    | 0 =>
      refine Ku_eq (by rw [x_rowsTimes]) ?_
      exact Ku_c rfl (ih _ _ _ _)
    | 1 =>
      refine Ku_eq (by rw [x_rowsTimes]) ?_
      exact Ku_c rfl (ih _ _ _ _)
    | 2 =>
      refine Ku_eq (by rw [x_rowsTimes]) ?_
      exact Ku_ite (Ku_c rfl (ih _ _ _ _)) (Ku_ite (Ku_c rfl (ih _ _ _ _)) (Ku_no _))
    | 3 =>
      refine Ku_eq (by rw [x_rowsTimes]) ?_
      exact Ku_c rfl (ih _ _ _ _)
    | 4 =>
      refine Ku_eq (by rw [x_rowsTimes]) ?_
      exact Ku_c rfl (ih _ _ _ _)
    | 5 =>
      refine Ku_eq (by rw [x_rowsTimes]) ?_
      exact Ku_ite (Ku_c rfl (ih _ _ _ _)) (Ku_c rfl (ih _ _ _ _))
    | 6 =>
      refine Ku_eq (by rw [x_rowsTimes]) ?_
      exact Ku_ite (Ku_c rfl (ih _ _ _ _)) (Ku_ite (Ku_ite (Ku_ite (Ku_ite (Ku_c rfl (ih _ _ _ _)) (Ku_no _)) (Ku_no _)) (Ku_no _)) (Ku_no _))
    | 7 =>
      refine Ku_eq (by rw [x_rowsTimes]) ?_
      exact Ku_c rfl (ih _ _ _ _)
    | 8 =>
      refine Ku_eq (by rw [x_rowsTimes]) ?_
      exact Ku_ite (Ku_c rfl (ih _ _ _ _)) (Ku_no _)
    | 9 =>
      refine Ku_eq (by rw [x_rowsTimes]) ?_
      exact Ku_c rfl (ih _ _ _ _)
    | 10 =>
      refine Ku_eq (by rw [x_rowsTimes]) ?_
      exact Ku_ite (Ku_c rfl (ih _ _ _ _)) (Ku_ite (Ku_ite (Ku_c rfl (ih _ _ _ _)) (Ku_c rfl (ih _ _ _ _))) (Ku_no _))
    | 11 =>
      refine Ku_eq (by rw [x_rowsTimes]) ?_
      exact Ku_so rfl
    | b + 12 =>
      refine Ku_eq (by rw [x_rowsTimes]) (Ku_no _)
theorem ku_raise : ∀ (k b : Nat) (L : Nat → Int32) (σ : MS), Ku (x_raise k b L σ) (ku σ) := by
  intro k
  induction k with
  | zero => intro b L σ; exact Ku_no _
  | succ k ih =>
    intro b L σ
    match b with
    | 0 =>
      refine Ku_eq (by rw [x_raise]) ?_
      exact Ku_ob (Ku_c rfl (ku_signOf _ _ _ _)) (fun _ h433 => Ku_ite (Ku_c h433 (ih _ _ _)) (Ku_ob (Ku_c h433 (ku_fail _ _ _ _)) (fun _ h434 => Ku_so h434)))
    | 1 =>
      refine Ku_eq (by rw [x_raise]) ?_
      exact Ku_ob (Ku_c rfl (ku_intOf _ _ _ _ _)) (fun _ h435 => Ku_ite (Ku_ob (Ku_c h435 (ku_small _ _ _ _)) (fun _ h436 => Ku_so h436)) (Ku_c h435 (ih _ _ _)))
    | 2 =>
      refine Ku_eq (by rw [x_raise]) ?_
      exact Ku_ite (Ku_ite (Ku_c rfl (ih _ _ _)) (Ku_ite (Ku_ite (Ku_c rfl (ih _ _ _)) (Ku_c rfl (ih _ _ _))) (Ku_no _))) (Ku_no _)
    | 3 =>
      refine Ku_eq (by rw [x_raise]) ?_
      exact Ku_c rfl (ih _ _ _)
    | 4 =>
      refine Ku_eq (by rw [x_raise]) ?_
      exact Ku_ite (Ku_ite (Ku_c rfl (ih _ _ _)) (Ku_ite (Ku_ite (Ku_ite (Ku_ite (Ku_c rfl (ih _ _ _)) (Ku_c rfl (ih _ _ _))) (Ku_no _)) (Ku_c rfl (ih _ _ _))) (Ku_no _))) (Ku_no _)
    | 5 =>
      refine Ku_eq (by rw [x_raise]) ?_
      exact Ku_ob (Ku_c rfl (ku_signOf _ _ _ _)) (fun _ h437 => Ku_ite (Ku_c h437 (ih _ _ _)) (Ku_ite (Ku_c h437 (ih _ _ _)) (Ku_c h437 (ih _ _ _))))
    | 6 =>
      refine Ku_eq (by rw [x_raise]) ?_
      exact Ku_c rfl (ih _ _ _)
    | 7 =>
      refine Ku_eq (by rw [x_raise]) ?_
      exact Ku_ob (Ku_c rfl (ku_small _ _ _ _)) (fun _ h438 => Ku_c h438 (ih _ _ _))
    | 8 =>
      refine Ku_eq (by rw [x_raise]) ?_
      exact Ku_so rfl
    | 9 =>
      refine Ku_eq (by rw [x_raise]) ?_
      exact Ku_ob (Ku_c rfl (ku_loadA _ _ _ _)) (fun _ h439 => Ku_c h439 (ih _ _ _))
    | 10 =>
      refine Ku_eq (by rw [x_raise]) ?_
      exact Ku_ite (Ku_c rfl (ih _ _ _)) (Ku_ite (Ku_ite (Ku_c rfl (ih _ _ _)) (Ku_no _)) (Ku_no _))
    | 11 =>
      refine Ku_eq (by rw [x_raise]) ?_
      exact Ku_c rfl (ih _ _ _)
    | 12 =>
      refine Ku_eq (by rw [x_raise]) ?_
      exact Ku_c rfl (ih _ _ _)
    | 13 =>
      refine Ku_eq (by rw [x_raise]) ?_
      exact Ku_ite (Ku_c rfl (ih _ _ _)) (Ku_ite (Ku_ob (Ku_c rfl (ku_rowsTimes _ _ _ _ _)) (fun _ h440 => Ku_ite (Ku_c h440 (ih _ _ _)) (Ku_ob (Ku_c h440 (ku_fail _ _ _ _)) (fun _ h441 => Ku_c h441 (ih _ _ _))))) (Ku_c rfl (ih _ _ _)))
    | 14 =>
      refine Ku_eq (by rw [x_raise]) ?_
      exact Ku_c rfl (ih _ _ _)
    | 15 =>
      refine Ku_eq (by rw [x_raise]) ?_
      exact Ku_ite (Ku_c rfl (ih _ _ _)) (Ku_ite (Ku_ite (Ku_c rfl (ih _ _ _)) (Ku_no _)) (Ku_no _))
    | 16 =>
      refine Ku_eq (by rw [x_raise]) ?_
      exact Ku_c rfl (ih _ _ _)
    | 17 =>
      refine Ku_eq (by rw [x_raise]) ?_
      exact Ku_c rfl (ih _ _ _)
    | 18 =>
      refine Ku_eq (by rw [x_raise]) ?_
      exact Ku_ite (Ku_c rfl (ih _ _ _)) (Ku_so rfl)
    | 19 =>
      refine Ku_eq (by rw [x_raise]) ?_
      exact Ku_c rfl (ih _ _ _)
    | 20 =>
      refine Ku_eq (by rw [x_raise]) ?_
      exact Ku_c rfl (ih _ _ _)
    | 21 =>
      refine Ku_eq (by rw [x_raise]) ?_
      exact Ku_ite (Ku_c rfl (ih _ _ _)) (Ku_ite (Ku_ite (Ku_c rfl (ih _ _ _)) (Ku_no _)) (Ku_no _))
    | 22 =>
      refine Ku_eq (by rw [x_raise]) ?_
      exact Ku_c rfl (ih _ _ _)
    | 23 =>
      refine Ku_eq (by rw [x_raise]) ?_
      exact Ku_ob (Ku_c rfl (ku_signOf _ _ _ _)) (fun _ h442 => Ku_ite (Ku_c h442 (ih _ _ _)) (Ku_ite (Ku_c h442 (ih _ _ _)) (Ku_c h442 (ih _ _ _))))
    | 24 =>
      refine Ku_eq (by rw [x_raise]) ?_
      exact Ku_c rfl (ih _ _ _)
    | 25 =>
      refine Ku_eq (by rw [x_raise]) ?_
      exact Ku_ob (Ku_c rfl (ku_wholeOf _ _ _ _)) (fun _ h443 => Ku_so h443)
    | b + 26 =>
      refine Ku_eq (by rw [x_raise]) (Ku_no _)
theorem ku_compareRows__46__43 : ∀ (k b : Nat) (L : Nat → Int32) (σ : MS), Ku (x_compareRows__46__43 k b L σ) (ku σ) := by
  intro k
  induction k with
  | zero => intro b L σ; exact Ku_no _
  | succ k ih =>
    intro b L σ
    match b with
    | 0 =>
      refine Ku_eq (by rw [x_compareRows__46__43]) ?_
      exact Ku_c rfl (ih _ _ _)
    | 1 =>
      refine Ku_eq (by rw [x_compareRows__46__43]) ?_
      exact Ku_ite (Ku_c rfl (ih _ _ _)) (Ku_ite (Ku_ite (Ku_ite (Ku_c rfl (ih _ _ _)) (Ku_no _)) (Ku_no _)) (Ku_c rfl (ih _ _ _)))
    | 2 =>
      refine Ku_eq (by rw [x_compareRows__46__43]) ?_
      exact Ku_so rfl
    | b + 3 =>
      refine Ku_eq (by rw [x_compareRows__46__43]) (Ku_no _)
theorem ku_divideRows : ∀ (k b : Nat) (L : Nat → Int32) (σ : MS), Ku (x_divideRows k b L σ) (ku σ) := by
  intro k
  induction k with
  | zero => intro b L σ; exact Ku_no _
  | succ k ih =>
    intro b L σ
    match b with
    | 0 =>
      refine Ku_eq (by rw [x_divideRows]) ?_
      exact Ku_c rfl (ih _ _ _)
    | 1 =>
      refine Ku_eq (by rw [x_divideRows]) ?_
      exact Ku_c rfl (ih _ _ _)
    | 2 =>
      refine Ku_eq (by rw [x_divideRows]) ?_
      exact Ku_c rfl (ih _ _ _)
    | 3 =>
      refine Ku_eq (by rw [x_divideRows]) ?_
      exact Ku_ite (Ku_c rfl (ih _ _ _)) (Ku_ite (Ku_c rfl (ih _ _ _)) (Ku_no _))
    | 4 =>
      refine Ku_eq (by rw [x_divideRows]) ?_
      exact Ku_c rfl (ih _ _ _)
    | 5 =>
      refine Ku_eq (by rw [x_divideRows]) ?_
      exact Ku_c rfl (ih _ _ _)
    | 6 =>
      refine Ku_eq (by rw [x_divideRows]) ?_
      exact Ku_ite (Ku_c rfl (ih _ _ _)) (Ku_ite (Ku_c rfl (ih _ _ _)) (Ku_no _))
    | 7 =>
      refine Ku_eq (by rw [x_divideRows]) ?_
      exact Ku_ite (Ku_c rfl (ih _ _ _)) (Ku_ite (Ku_ite (Ku_c rfl (ih _ _ _)) (Ku_no _)) (Ku_no _))
    | 8 =>
      refine Ku_eq (by rw [x_divideRows]) ?_
      exact Ku_c rfl (ih _ _ _)
    | 9 =>
      refine Ku_eq (by rw [x_divideRows]) ?_
      exact Ku_ite (Ku_c rfl (ih _ _ _)) (Ku_ite (Ku_c rfl (ih _ _ _)) (Ku_no _))
    | 10 =>
      refine Ku_eq (by rw [x_divideRows]) ?_
      exact Ku_c rfl (ih _ _ _)
    | 11 =>
      refine Ku_eq (by rw [x_divideRows]) ?_
      exact Ku_ob (Ku_c rfl (ku_compareRows__46__43 _ _ _ _)) (fun _ h444 => Ku_ite (Ku_c h444 (ih _ _ _)) (Ku_c h444 (ih _ _ _)))
    | 12 =>
      refine Ku_eq (by rw [x_divideRows]) ?_
      exact Ku_ite (Ku_c rfl (ih _ _ _)) (Ku_ite (Ku_ite (Ku_c rfl (ih _ _ _)) (Ku_ite (Ku_c rfl (ih _ _ _)) (Ku_no _))) (Ku_no _))
    | 13 =>
      refine Ku_eq (by rw [x_divideRows]) ?_
      exact Ku_c rfl (ih _ _ _)
    | 14 =>
      refine Ku_eq (by rw [x_divideRows]) ?_
      exact Ku_ite (Ku_c rfl (ih _ _ _)) (Ku_c rfl (ih _ _ _))
    | 15 =>
      refine Ku_eq (by rw [x_divideRows]) ?_
      exact Ku_c rfl (ih _ _ _)
    | 16 =>
      refine Ku_eq (by rw [x_divideRows]) ?_
      exact Ku_ite (Ku_c rfl (ih _ _ _)) (Ku_no _)
    | 17 =>
      refine Ku_eq (by rw [x_divideRows]) ?_
      exact Ku_c rfl (ih _ _ _)
    | 18 =>
      refine Ku_eq (by rw [x_divideRows]) ?_
      exact Ku_ite (Ku_c rfl (ih _ _ _)) (Ku_ite (Ku_ite (Ku_c rfl (ih _ _ _)) (Ku_c rfl (ih _ _ _))) (Ku_no _))
    | 19 =>
      refine Ku_eq (by rw [x_divideRows]) ?_
      exact Ku_ite (Ku_ite (Ku_c rfl (ih _ _ _)) (Ku_no _)) (Ku_no _)
    | 20 =>
      refine Ku_eq (by rw [x_divideRows]) ?_
      exact Ku_c rfl (ih _ _ _)
    | 21 =>
      refine Ku_eq (by rw [x_divideRows]) ?_
      exact Ku_so rfl
    | b + 22 =>
      refine Ku_eq (by rw [x_divideRows]) (Ku_no _)
theorem ku_divide : ∀ (k b : Nat) (L : Nat → Int32) (σ : MS), Ku (x_divide k b L σ) (ku σ) := by
  intro k
  induction k with
  | zero => intro b L σ; exact Ku_no _
  | succ k ih =>
    intro b L σ
    match b with
    | 0 =>
      refine Ku_eq (by rw [x_divide]) ?_
      exact Ku_ob (Ku_c rfl (ku_signOf _ _ _ _)) (fun _ h445 => Ku_ite (Ku_ob (Ku_c h445 (ku_fail _ _ _ _)) (fun _ h446 => Ku_so h446)) (Ku_c h445 (ih _ _ _)))
    | 1 =>
      refine Ku_eq (by rw [x_divide]) ?_
      exact Ku_ob (Ku_c rfl (ku_loadA _ _ _ _)) (fun _ h447 => Ku_ob (Ku_c h447 (ku_loadB _ _ _ _)) (fun _ h448 => Ku_ob (Ku_c h448 (ku_divideRows _ _ _ _)) (fun _ h449 => Ku_ob (Ku_c h449 (ku_signOf _ _ _ _)) (fun _ h450 => Ku_ite (Ku_c h450 (ih _ _ _)) (Ku_ite (Ku_c h450 (ih _ _ _)) (Ku_c h450 (ih _ _ _)))))))
    | 2 =>
      refine Ku_eq (by rw [x_divide]) ?_
      exact Ku_c rfl (ih _ _ _)
    | 3 =>
      refine Ku_eq (by rw [x_divide]) ?_
      exact Ku_ite (Ku_c rfl (ih _ _ _)) (Ku_ite (Ku_c rfl (ih _ _ _)) (Ku_c rfl (ih _ _ _)))
    | 4 =>
      refine Ku_eq (by rw [x_divide]) ?_
      exact Ku_c rfl (ih _ _ _)
    | 5 =>
      refine Ku_eq (by rw [x_divide]) ?_
      exact Ku_c rfl (ih _ _ _)
    | 6 =>
      refine Ku_eq (by rw [x_divide]) ?_
      exact Ku_c rfl (ih _ _ _)
    | 7 =>
      refine Ku_eq (by rw [x_divide]) ?_
      exact Ku_ite (Ku_c rfl (ih _ _ _)) (Ku_ite (Ku_c rfl (ih _ _ _)) (Ku_ite (Ku_c rfl (ih _ _ _)) (Ku_no _)))
    | 8 =>
      refine Ku_eq (by rw [x_divide]) ?_
      exact Ku_c rfl (ih _ _ _)
    | 9 =>
      refine Ku_eq (by rw [x_divide]) ?_
      exact Ku_ite (Ku_c rfl (ih _ _ _)) (Ku_ite (Ku_c rfl (ih _ _ _)) (Ku_no _))
    | 10 =>
      refine Ku_eq (by rw [x_divide]) ?_
      exact Ku_c rfl (ih _ _ _)
    | 11 =>
      refine Ku_eq (by rw [x_divide]) ?_
      exact Ku_ite (Ku_c rfl (ih _ _ _)) (Ku_ite (Ku_c rfl (ih _ _ _)) (Ku_c rfl (ih _ _ _)))
    | 12 =>
      refine Ku_eq (by rw [x_divide]) ?_
      exact Ku_c rfl (ih _ _ _)
    | 13 =>
      refine Ku_eq (by rw [x_divide]) ?_
      exact Ku_ite (Ku_c rfl (ih _ _ _)) (Ku_no _)
    | 14 =>
      refine Ku_eq (by rw [x_divide]) ?_
      exact Ku_c rfl (ih _ _ _)
    | 15 =>
      refine Ku_eq (by rw [x_divide]) ?_
      exact Ku_ob (Ku_c rfl (ku_wholeOf _ _ _ _)) (fun _ h451 => Ku_so h451)
    | 16 =>
      refine Ku_eq (by rw [x_divide]) ?_
      exact Ku_c rfl (ih _ _ _)
    | 17 =>
      refine Ku_eq (by rw [x_divide]) ?_
      exact Ku_ite (Ku_c rfl (ih _ _ _)) (Ku_c rfl (ih _ _ _))
    | 18 =>
      refine Ku_eq (by rw [x_divide]) ?_
      exact Ku_c rfl (ih _ _ _)
    | 19 =>
      refine Ku_eq (by rw [x_divide]) ?_
      exact Ku_c rfl (ih _ _ _)
    | 20 =>
      refine Ku_eq (by rw [x_divide]) ?_
      exact Ku_ite (Ku_c rfl (ih _ _ _)) (Ku_ite (Ku_ite (Ku_c rfl (ih _ _ _)) (Ku_no _)) (Ku_no _))
    | 21 =>
      refine Ku_eq (by rw [x_divide]) ?_
      exact Ku_c rfl (ih _ _ _)
    | 22 =>
      refine Ku_eq (by rw [x_divide]) ?_
      exact Ku_ite (Ku_c rfl (ih _ _ _)) (Ku_ite (Ku_c rfl (ih _ _ _)) (Ku_no _))
    | 23 =>
      refine Ku_eq (by rw [x_divide]) ?_
      exact Ku_c rfl (ih _ _ _)
    | 24 =>
      refine Ku_eq (by rw [x_divide]) ?_
      exact Ku_ob (Ku_c rfl (ku_signOf _ _ _ _)) (fun _ h452 => Ku_ob (Ku_c h452 (ku_signOf _ _ _ _)) (fun _ h453 => Ku_ob (Ku_c h453 (ku_wholeOf _ _ _ _)) (fun _ h454 => Ku_so h454)))
    | b + 25 =>
      refine Ku_eq (by rw [x_divide]) (Ku_no _)
theorem ku_isIn : ∀ (k b : Nat) (L : Nat → Int32) (σ : MS), Ku (x_isIn k b L σ) (ku σ) := by
  intro k
  induction k with
  | zero => intro b L σ; exact Ku_no _
  | succ k ih =>
    intro b L σ
    match b with
    | 0 =>
      refine Ku_eq (by rw [x_isIn]) ?_
      exact Ku_ob (Ku_c rfl (ku_kind _ _ _ _)) (fun _ h455 => Ku_ite (Ku_ite (Ku_c h455 (ih _ _ _)) (Ku_ob (Ku_c h455 (ku_has _ _ _ _)) (fun _ h456 => Ku_ite (Ku_c h456 (ih _ _ _)) (Ku_c h456 (ih _ _ _))))) (Ku_c h455 (ih _ _ _)))
    | 1 =>
      refine Ku_eq (by rw [x_isIn]) ?_
      exact Ku_c rfl (ih _ _ _)
    | 2 =>
      refine Ku_eq (by rw [x_isIn]) ?_
      exact Ku_ob (Ku_c rfl (ku_truth _ _ _ _)) (fun _ h457 => Ku_so h457)
    | 3 =>
      refine Ku_eq (by rw [x_isIn]) ?_
      exact Ku_ite (Ku_c rfl (ih _ _ _)) (Ku_c rfl (ih _ _ _))
    | 4 =>
      refine Ku_eq (by rw [x_isIn]) ?_
      exact Ku_ite (Ku_ite (Ku_c rfl (ih _ _ _)) (Ku_ite (Ku_c rfl (ih _ _ _)) (Ku_ite (Ku_ite (Ku_ob (Ku_c rfl (ku_compare _ _ _ _)) (fun _ h458 => Ku_ite (Ku_c h458 (ih _ _ _)) (Ku_c h458 (ih _ _ _)))) (Ku_no _)) (Ku_c rfl (ih _ _ _))))) (Ku_no _)
    | 5 =>
      refine Ku_eq (by rw [x_isIn]) ?_
      exact Ku_c rfl (ih _ _ _)
    | 6 =>
      refine Ku_eq (by rw [x_isIn]) ?_
      exact Ku_c rfl (ih _ _ _)
    | 7 =>
      refine Ku_eq (by rw [x_isIn]) ?_
      exact Ku_c rfl (ih _ _ _)
    | 8 =>
      refine Ku_eq (by rw [x_isIn]) ?_
      exact Ku_ob (Ku_c rfl (ku_truth _ _ _ _)) (fun _ h459 => Ku_so h459)
    | 9 =>
      refine Ku_eq (by rw [x_isIn]) ?_
      exact Ku_ite (Ku_ob (Ku_c rfl (ku_kind _ _ _ _)) (fun _ h460 => Ku_ite (Ku_c h460 (ih _ _ _)) (Ku_c h460 (ih _ _ _)))) (Ku_c rfl (ih _ _ _))
    | 10 =>
      refine Ku_eq (by rw [x_isIn]) ?_
      exact Ku_ob (Ku_c rfl (ku_wrongKind _ _ _ _)) (fun _ h461 => Ku_so h461)
    | 11 =>
      refine Ku_eq (by rw [x_isIn]) ?_
      exact Ku_c rfl (ih _ _ _)
    | 12 =>
      refine Ku_eq (by rw [x_isIn]) ?_
      exact Ku_ite (Ku_ite (Ku_ite (Ku_c rfl (ih _ _ _)) (Ku_ite (Ku_c rfl (ih _ _ _)) (Ku_c rfl (ih _ _ _)))) (Ku_no _)) (Ku_no _)
    | 13 =>
      refine Ku_eq (by rw [x_isIn]) ?_
      exact Ku_ite (Ku_ite (Ku_c rfl (ih _ _ _)) (Ku_ite (Ku_c rfl (ih _ _ _)) (Ku_ite (Ku_ite (Ku_ite (Ku_c rfl (ih _ _ _)) (Ku_c rfl (ih _ _ _))) (Ku_no _)) (Ku_no _)))) (Ku_no _)
    | 14 =>
      refine Ku_eq (by rw [x_isIn]) ?_
      exact Ku_c rfl (ih _ _ _)
    | 15 =>
      refine Ku_eq (by rw [x_isIn]) ?_
      exact Ku_c rfl (ih _ _ _)
    | 16 =>
      refine Ku_eq (by rw [x_isIn]) ?_
      exact Ku_c rfl (ih _ _ _)
    | 17 =>
      refine Ku_eq (by rw [x_isIn]) ?_
      exact Ku_ob (Ku_c rfl (ku_truth _ _ _ _)) (fun _ h462 => Ku_so h462)
    | b + 18 =>
      refine Ku_eq (by rw [x_isIn]) (Ku_no _)
theorem ku_isSubset : ∀ (k b : Nat) (L : Nat → Int32) (σ : MS), Ku (x_isSubset k b L σ) (ku σ) := by
  intro k
  induction k with
  | zero => intro b L σ; exact Ku_no _
  | succ k ih =>
    intro b L σ
    match b with
    | 0 =>
      refine Ku_eq (by rw [x_isSubset]) ?_
      exact Ku_c rfl (ih _ _ _)
    | 1 =>
      refine Ku_eq (by rw [x_isSubset]) ?_
      exact Ku_ite (Ku_ite (Ku_c rfl (ih _ _ _)) (Ku_ite (Ku_c rfl (ih _ _ _)) (Ku_ite (Ku_ob (Ku_c rfl (ku_has _ _ _ _)) (fun _ h463 => Ku_c h463 (ih _ _ _))) (Ku_no _)))) (Ku_no _)
    | 2 =>
      refine Ku_eq (by rw [x_isSubset]) ?_
      exact Ku_ite (Ku_so rfl) (Ku_no _)
    | b + 3 =>
      refine Ku_eq (by rw [x_isSubset]) (Ku_no _)
theorem ku_operate : ∀ (k b : Nat) (L : Nat → Int32) (σ : MS), Ku (x_operate k b L σ) (ku σ) := by
  intro k
  induction k with
  | zero => intro b L σ; exact Ku_no _
  | succ k ih =>
    intro b L σ
    match b with
    | 0 =>
      refine Ku_eq (by rw [x_operate]) ?_
      exact Ku_ob (Ku_c rfl (ku_kind _ _ _ _)) (fun _ h464 => Ku_ob (Ku_c h464 (ku_kind _ _ _ _)) (fun _ h465 => Ku_ite (Ku_ite (Ku_c h465 (ih _ _ _)) (Ku_c h465 (ih _ _ _))) (Ku_c h465 (ih _ _ _))))
    | 1 =>
      refine Ku_eq (by rw [x_operate]) ?_
      exact Ku_c rfl (ih _ _ _)
    | 2 =>
      refine Ku_eq (by rw [x_operate]) ?_
      exact Ku_ite (Ku_c rfl (ih _ _ _)) (Ku_ite (Ku_c rfl (ih _ _ _)) (Ku_ite (Ku_c rfl (ih _ _ _)) (Ku_ite (Ku_c rfl (ih _ _ _)) (Ku_ite (Ku_c rfl (ih _ _ _)) (Ku_ite (Ku_c rfl (ih _ _ _)) (Ku_ite (Ku_c rfl (ih _ _ _)) (Ku_ite (Ku_c rfl (ih _ _ _)) (Ku_ite (Ku_c rfl (ih _ _ _)) (Ku_ite (Ku_c rfl (ih _ _ _)) (Ku_ite (Ku_c rfl (ih _ _ _)) (Ku_c rfl (ih _ _ _))))))))))))
    | 3 =>
      refine Ku_eq (by rw [x_operate]) ?_
      exact Ku_ob (Ku_c rfl (ku_plus _ _ _ _)) (fun _ h466 => Ku_so h466)
    | 4 =>
      refine Ku_eq (by rw [x_operate]) ?_
      exact Ku_ite (Ku_c rfl (ih _ _ _)) (Ku_ob (Ku_c rfl (ku_add _ _ _ _)) (fun _ h467 => Ku_so h467))
    | 5 =>
      refine Ku_eq (by rw [x_operate]) ?_
      exact Ku_ite (Ku_ite (Ku_ob (Ku_c rfl (ku_sift _ _ _ _)) (fun _ h468 => Ku_c h468 (ih _ _ _))) (Ku_c rfl (ih _ _ _))) (Ku_c rfl (ih _ _ _))
    | 6 =>
      refine Ku_eq (by rw [x_operate]) ?_
      exact Ku_ob (Ku_c rfl (ku_wrongKind _ _ _ _)) (fun _ h469 => Ku_c h469 (ih _ _ _))
    | 7 =>
      refine Ku_eq (by rw [x_operate]) ?_
      exact Ku_so rfl
    | 8 =>
      refine Ku_eq (by rw [x_operate]) ?_
      exact Ku_ite (Ku_c rfl (ih _ _ _)) (Ku_ob (Ku_c rfl (ku_multiply _ _ _ _ _)) (fun _ h470 => Ku_so h470))
    | 9 =>
      refine Ku_eq (by rw [x_operate]) ?_
      exact Ku_ite (Ku_ite (Ku_ob (Ku_c rfl (ku_sift _ _ _ _)) (fun _ h471 => Ku_so h471)) (Ku_c rfl (ih _ _ _))) (Ku_c rfl (ih _ _ _))
    | 10 =>
      refine Ku_eq (by rw [x_operate]) ?_
      exact Ku_ite (Ku_c rfl (ih _ _ _)) (Ku_ite (Ku_c rfl (ih _ _ _)) (Ku_c rfl (ih _ _ _)))
    | 11 =>
      refine Ku_eq (by rw [x_operate]) ?_
      exact Ku_ite (Ku_ob (Ku_c rfl (ku_repeat _ _ _ _)) (fun _ h472 => Ku_c h472 (ih _ _ _))) (Ku_c rfl (ih _ _ _))
    | 12 =>
      refine Ku_eq (by rw [x_operate]) ?_
      exact Ku_ob (Ku_c rfl (ku_wrongKind _ _ _ _)) (fun _ h473 => Ku_c h473 (ih _ _ _))
    | 13 =>
      refine Ku_eq (by rw [x_operate]) ?_
      exact Ku_so rfl
    | 14 =>
      refine Ku_eq (by rw [x_operate]) ?_
      exact Ku_ite (Ku_c rfl (ih _ _ _)) (Ku_ob (Ku_c rfl (ku_raise _ _ _ _)) (fun _ h474 => Ku_c h474 (ih _ _ _)))
    | 15 =>
      refine Ku_eq (by rw [x_operate]) ?_
      exact Ku_ob (Ku_c rfl (ku_wrongKind _ _ _ _)) (fun _ h475 => Ku_c h475 (ih _ _ _))
    | 16 =>
      refine Ku_eq (by rw [x_operate]) ?_
      exact Ku_so rfl
    | 17 =>
      refine Ku_eq (by rw [x_operate]) ?_
      exact Ku_ob (Ku_c rfl (ku_compare _ _ _ _)) (fun _ h476 => Ku_ite (Ku_c h476 (ih _ _ _)) (Ku_c h476 (ih _ _ _)))
    | 18 =>
      refine Ku_eq (by rw [x_operate]) ?_
      exact Ku_c rfl (ih _ _ _)
    | 19 =>
      refine Ku_eq (by rw [x_operate]) ?_
      exact Ku_ob (Ku_c rfl (ku_truth _ _ _ _)) (fun _ h477 => Ku_so h477)
    | 20 =>
      refine Ku_eq (by rw [x_operate]) ?_
      exact Ku_ob (Ku_c rfl (ku_compare _ _ _ _)) (fun _ h478 => Ku_ite (Ku_c h478 (ih _ _ _)) (Ku_c h478 (ih _ _ _)))
    | 21 =>
      refine Ku_eq (by rw [x_operate]) ?_
      exact Ku_c rfl (ih _ _ _)
    | 22 =>
      refine Ku_eq (by rw [x_operate]) ?_
      exact Ku_ob (Ku_c rfl (ku_truth _ _ _ _)) (fun _ h479 => Ku_so h479)
    | 23 =>
      refine Ku_eq (by rw [x_operate]) ?_
      exact Ku_ite (Ku_c rfl (ih _ _ _)) (Ku_ob (Ku_c rfl (ku_divide _ _ _ _)) (fun _ h480 => Ku_c h480 (ih _ _ _)))
    | 24 =>
      refine Ku_eq (by rw [x_operate]) ?_
      exact Ku_ob (Ku_c rfl (ku_wrongKind _ _ _ _)) (fun _ h481 => Ku_c h481 (ih _ _ _))
    | 25 =>
      refine Ku_eq (by rw [x_operate]) ?_
      exact Ku_so rfl
    | 26 =>
      refine Ku_eq (by rw [x_operate]) ?_
      exact Ku_ite (Ku_c rfl (ih _ _ _)) (Ku_ob (Ku_c rfl (ku_divide _ _ _ _)) (fun _ h482 => Ku_c h482 (ih _ _ _)))
    | 27 =>
      refine Ku_eq (by rw [x_operate]) ?_
      exact Ku_ob (Ku_c rfl (ku_wrongKind _ _ _ _)) (fun _ h483 => Ku_c h483 (ih _ _ _))
    | 28 =>
      refine Ku_eq (by rw [x_operate]) ?_
      exact Ku_so rfl
    | 29 =>
      refine Ku_eq (by rw [x_operate]) ?_
      exact Ku_ob (Ku_c rfl (ku_isIn _ _ _ _)) (fun _ h484 => Ku_so h484)
    | 30 =>
      refine Ku_eq (by rw [x_operate]) ?_
      exact Ku_ob (Ku_c rfl (ku_isIn _ _ _ _)) (fun _ h485 => Ku_ite (Ku_c h485 (ih _ _ _)) (Ku_c h485 (ih _ _ _)))
    | 31 =>
      refine Ku_eq (by rw [x_operate]) ?_
      exact Ku_c rfl (ih _ _ _)
    | 32 =>
      refine Ku_eq (by rw [x_operate]) ?_
      exact Ku_ob (Ku_c rfl (ku_truth _ _ _ _)) (fun _ h486 => Ku_so h486)
    | 33 =>
      refine Ku_eq (by rw [x_operate]) ?_
      exact Ku_ite (Ku_ite (Ku_ob (Ku_c rfl (ku_isSubset _ _ _ _)) (fun _ h487 => Ku_ob (Ku_c h487 (ku_truth _ _ _ _)) (fun _ h488 => Ku_c h488 (ih _ _ _)))) (Ku_c rfl (ih _ _ _))) (Ku_c rfl (ih _ _ _))
    | 34 =>
      refine Ku_eq (by rw [x_operate]) ?_
      exact Ku_ob (Ku_c rfl (ku_wrongKind _ _ _ _)) (fun _ h489 => Ku_c h489 (ih _ _ _))
    | 35 =>
      refine Ku_eq (by rw [x_operate]) ?_
      exact Ku_so rfl
    | 36 =>
      refine Ku_eq (by rw [x_operate]) ?_
      exact Ku_ite (Ku_ite (Ku_ite (Ku_c rfl (ih _ _ _)) (Ku_c rfl (ih _ _ _))) (Ku_c rfl (ih _ _ _))) (Ku_c rfl (ih _ _ _))
    | 37 =>
      refine Ku_eq (by rw [x_operate]) ?_
      exact Ku_ob (Ku_c rfl (ku_wrongKind _ _ _ _)) (fun _ h490 => Ku_so h490)
    | 38 =>
      refine Ku_eq (by rw [x_operate]) ?_
      exact Ku_ob (Ku_c rfl (ku_compare _ _ _ _)) (fun _ h491 => Ku_ite (Ku_ite (Ku_c h491 (ih _ _ _)) (Ku_c h491 (ih _ _ _))) (Ku_c h491 (ih _ _ _)))
    | 39 =>
      refine Ku_eq (by rw [x_operate]) ?_
      exact Ku_c rfl (ih _ _ _)
    | 40 =>
      refine Ku_eq (by rw [x_operate]) ?_
      exact Ku_ite (Ku_ite (Ku_c rfl (ih _ _ _)) (Ku_c rfl (ih _ _ _))) (Ku_c rfl (ih _ _ _))
    | 41 =>
      refine Ku_eq (by rw [x_operate]) ?_
      exact Ku_c rfl (ih _ _ _)
    | 42 =>
      refine Ku_eq (by rw [x_operate]) ?_
      exact Ku_ite (Ku_ite (Ku_c rfl (ih _ _ _)) (Ku_c rfl (ih _ _ _))) (Ku_c rfl (ih _ _ _))
    | 43 =>
      refine Ku_eq (by rw [x_operate]) ?_
      exact Ku_c rfl (ih _ _ _)
    | 44 =>
      refine Ku_eq (by rw [x_operate]) ?_
      exact Ku_ite (Ku_c rfl (ih _ _ _)) (Ku_c rfl (ih _ _ _))
    | 45 =>
      refine Ku_eq (by rw [x_operate]) ?_
      exact Ku_c rfl (ih _ _ _)
    | 46 =>
      refine Ku_eq (by rw [x_operate]) ?_
      exact Ku_ob (Ku_c rfl (ku_truth _ _ _ _)) (fun _ h492 => Ku_so h492)
    | b + 47 =>
      refine Ku_eq (by rw [x_operate]) (Ku_no _)
theorem ku_reduce : ∀ (k b : Nat) (L : Nat → Int32) (σ : MS), Ku (x_reduce k b L σ) (ku σ) := by
  intro k
  induction k with
  | zero => intro b L σ; exact Ku_no _
  | succ k ih =>
    intro b L σ
    match b with
    | 0 =>
      refine Ku_eq (by rw [x_reduce]) ?_
      exact Ku_ob (Ku_c rfl (ku_kind _ _ _ _)) (fun _ h493 => Ku_ite (Ku_c h493 (ih _ _ _)) (Ku_ite (Ku_c h493 (ih _ _ _)) (Ku_ob (Ku_c h493 (ku_wrongKind _ _ _ _)) (fun _ h494 => Ku_so h494))))
    | 1 =>
      refine Ku_eq (by rw [x_reduce]) ?_
      exact Ku_ite (Ku_ite (Ku_so rfl) (Ku_c rfl (ih _ _ _))) (Ku_no _)
    | 2 =>
      refine Ku_eq (by rw [x_reduce]) ?_
      exact Ku_ob (Ku_c rfl (ku_push _ _ _ _)) (fun _ h495 => Ku_ite (Ku_ob (Ku_c h495 (ku_push _ _ _ _)) (fun _ h496 => Ku_c h496 (ih _ _ _))) (Ku_no _))
    | 3 =>
      refine Ku_eq (by rw [x_reduce]) ?_
      exact Ku_ite (Ku_c rfl (ih _ _ _)) (Ku_ite (Ku_ob (Ku_c rfl (ku_sweep _ _ _ _)) (fun _ h497 => Ku_ite (Ku_ite (Ku_ite (Ku_ite (Ku_c h497 (ih _ _ _)) (Ku_ite (Ku_c h497 (ih _ _ _)) (Ku_c h497 (ih _ _ _)))) (Ku_no _)) (Ku_no _)) (Ku_no _))) (Ku_c rfl (ih _ _ _)))
    | 4 =>
      refine Ku_eq (by rw [x_reduce]) ?_
      exact Ku_ob (Ku_c rfl (ku_operate _ _ _ _)) (fun _ h498 => Ku_ob (Ku_c h498 (ku_answer _ _ _ _)) (fun _ h499 => Ku_c h499 (ih _ _ _)))
    | 5 =>
      refine Ku_eq (by rw [x_reduce]) ?_
      exact Ku_ob (Ku_c rfl (ku_operate _ _ _ _)) (fun _ h500 => Ku_ite (Ku_c h500 (ih _ _ _)) (Ku_c h500 (ih _ _ _)))
    | 6 =>
      refine Ku_eq (by rw [x_reduce]) ?_
      exact Ku_c rfl (ih _ _ _)
    | 7 =>
      refine Ku_eq (by rw [x_reduce]) ?_
      exact Ku_ite (Ku_ite (Ku_c rfl (ih _ _ _)) (Ku_ite (Ku_c rfl (ih _ _ _)) (Ku_c rfl (ih _ _ _)))) (Ku_c rfl (ih _ _ _))
    | 8 =>
      refine Ku_eq (by rw [x_reduce]) ?_
      exact Ku_ob (Ku_c rfl (ku_operate _ _ _ _)) (fun _ h501 => Ku_ite (Ku_c h501 (ih _ _ _)) (Ku_c h501 (ih _ _ _)))
    | 9 =>
      refine Ku_eq (by rw [x_reduce]) ?_
      exact Ku_c rfl (ih _ _ _)
    | 10 =>
      refine Ku_eq (by rw [x_reduce]) ?_
      exact Ku_c rfl (ih _ _ _)
    | 11 =>
      refine Ku_eq (by rw [x_reduce]) ?_
      exact Ku_c rfl (ih _ _ _)
    | 12 =>
      refine Ku_eq (by rw [x_reduce]) ?_
      exact Ku_ite (Ku_c rfl (ih _ _ _)) (Ku_no _)
    | 13 =>
      refine Ku_eq (by rw [x_reduce]) ?_
      exact Ku_c rfl (ih _ _ _)
    | 14 =>
      refine Ku_eq (by rw [x_reduce]) ?_
      exact Ku_c rfl (ih _ _ _)
    | 15 =>
      refine Ku_eq (by rw [x_reduce]) ?_
      exact Ku_ite (Ku_ite (Ku_c rfl (ih _ _ _)) (Ku_no _)) (Ku_c rfl (ih _ _ _))
    | 16 =>
      refine Ku_eq (by rw [x_reduce]) ?_
      exact Ku_c rfl (ih _ _ _)
    | 17 =>
      refine Ku_eq (by rw [x_reduce]) ?_
      exact Ku_so rfl
    | b + 18 =>
      refine Ku_eq (by rw [x_reduce]) (Ku_no _)
theorem ku_single : ∀ (k b : Nat) (L : Nat → Int32) (σ : MS), Ku (x_single k b L σ) (ku σ) := by
  intro k
  induction k with
  | zero => intro b L σ; exact Ku_no _
  | succ k ih =>
    intro b L σ
    match b with
    | 0 =>
      refine Ku_eq (by rw [x_single]) ?_
      exact Ku_ite (Ku_ite (Ku_c rfl (ih _ _ _)) (Ku_ite (Ku_c rfl (ih _ _ _)) (Ku_ite (Ku_c rfl (ih _ _ _)) (Ku_ite (Ku_c rfl (ih _ _ _)) (Ku_c rfl (ih _ _ _)))))) (Ku_no _)
    | 1 =>
      refine Ku_eq (by rw [x_single]) ?_
      exact Ku_ite (Ku_ob (Ku_c rfl (ku_function _ _ _ _)) (fun _ h502 => Ku_so h502)) (Ku_no _)
    | 2 =>
      refine Ku_eq (by rw [x_single]) ?_
      exact Ku_ob (Ku_c rfl (ku_negative _ _ _ _)) (fun _ h503 => Ku_so h503)
    | 3 =>
      refine Ku_eq (by rw [x_single]) ?_
      exact Ku_ob (Ku_c rfl (ku_many _ _ _ _)) (fun _ h504 => Ku_so h504)
    | 4 =>
      refine Ku_eq (by rw [x_single]) ?_
      exact Ku_ob (Ku_c rfl (ku_turned _ _ _ _)) (fun _ h505 => Ku_so h505)
    | 5 =>
      refine Ku_eq (by rw [x_single]) ?_
      exact Ku_ite (Ku_ob (Ku_c rfl (ku_reduce _ _ _ _)) (fun _ h506 => Ku_so h506)) (Ku_no _)
    | b + 6 =>
      refine Ku_eq (by rw [x_single]) (Ku_no _)
theorem ku_range : ∀ (k b : Nat) (L : Nat → Int32) (σ : MS), Ku (x_range k b L σ) (ku σ) := by
  intro k
  induction k with
  | zero => intro b L σ; exact Ku_no _
  | succ k ih =>
    intro b L σ
    match b with
    | 0 =>
      refine Ku_eq (by rw [x_range]) ?_
      exact Ku_ob (Ku_c rfl (ku_pop _ _ _ _)) (fun _ h507 => Ku_ite (Ku_c h507 (ih _ _ _)) (Ku_ob (Ku_c h507 (ku_pop _ _ _ _)) (fun _ h508 => Ku_c h508 (ih _ _ _))))
    | 1 =>
      refine Ku_eq (by rw [x_range]) ?_
      exact Ku_c rfl (ih _ _ _)
    | 2 =>
      refine Ku_eq (by rw [x_range]) ?_
      exact Ku_ob (Ku_c rfl (ku_pop _ _ _ _)) (fun _ h509 => Ku_ob (Ku_c h509 (ku_kind _ _ _ _)) (fun _ h510 => Ku_ite (Ku_ob (Ku_c h510 (ku_kind _ _ _ _)) (fun _ h511 => Ku_ite (Ku_ite (Ku_c h511 (ih _ _ _)) (Ku_ob (Ku_c h511 (ku_kind _ _ _ _)) (fun _ h512 => Ku_ite (Ku_c h512 (ih _ _ _)) (Ku_c h512 (ih _ _ _))))) (Ku_c h511 (ih _ _ _)))) (Ku_c h510 (ih _ _ _))))
    | 3 =>
      refine Ku_eq (by rw [x_range]) ?_
      exact Ku_ob (Ku_c rfl (ku_wrongKind _ _ _ _)) (fun _ h513 => Ku_so h513)
    | 4 =>
      refine Ku_eq (by rw [x_range]) ?_
      exact Ku_ite (Ku_c rfl (ih _ _ _)) (Ku_ob (Ku_c rfl (ku_add _ _ _ _)) (fun _ h514 => Ku_c h514 (ih _ _ _)))
    | 5 =>
      refine Ku_eq (by rw [x_range]) ?_
      exact Ku_ob (Ku_c rfl (ku_small _ _ _ _)) (fun _ h515 => Ku_c h515 (ih _ _ _))
    | 6 =>
      refine Ku_eq (by rw [x_range]) ?_
      exact Ku_ite (Ku_c rfl (ih _ _ _)) (Ku_c rfl (ih _ _ _))
    | 7 =>
      refine Ku_eq (by rw [x_range]) ?_
      exact Ku_c rfl (ih _ _ _)
    | 8 =>
      refine Ku_eq (by rw [x_range]) ?_
      exact Ku_c rfl (ih _ _ _)
    | 9 =>
      refine Ku_eq (by rw [x_range]) ?_
      exact Ku_ite (Ku_c rfl (ih _ _ _)) (Ku_ob (Ku_c rfl (ku_compareWholes _ _ _ _)) (fun _ h516 => Ku_ite (Ku_c h516 (ih _ _ _)) (Ku_c h516 (ih _ _ _))))
    | 10 =>
      refine Ku_eq (by rw [x_range]) ?_
      exact Ku_c rfl (ih _ _ _)
    | 11 =>
      refine Ku_eq (by rw [x_range]) ?_
      exact Ku_ob (Ku_c rfl (ku_signOf _ _ _ _)) (fun _ h517 => Ku_c h517 (ih _ _ _))
    | 12 =>
      refine Ku_eq (by rw [x_range]) ?_
      exact Ku_ite (Ku_c rfl (ih _ _ _)) (Ku_c rfl (ih _ _ _))
    | 13 =>
      refine Ku_eq (by rw [x_range]) ?_
      exact Ku_c rfl (ih _ _ _)
    | 14 =>
      refine Ku_eq (by rw [x_range]) ?_
      exact Ku_c rfl (ih _ _ _)
    | 15 =>
      refine Ku_eq (by rw [x_range]) ?_
      exact Ku_ite (Ku_ite (Ku_c rfl (ih _ _ _)) (Ku_ite (Ku_c rfl (ih _ _ _)) (Ku_ob (Ku_c rfl (ku_compareWholes _ _ _ _)) (fun _ h518 => Ku_ite (Ku_c h518 (ih _ _ _)) (Ku_c h518 (ih _ _ _)))))) (Ku_c rfl (ih _ _ _))
    | 16 =>
      refine Ku_eq (by rw [x_range]) ?_
      exact Ku_ob (Ku_c rfl (ku_compareWholes _ _ _ _)) (fun _ h519 => Ku_ite (Ku_c h519 (ih _ _ _)) (Ku_c h519 (ih _ _ _)))
    | 17 =>
      refine Ku_eq (by rw [x_range]) ?_
      exact Ku_ob (Ku_c rfl (ku_push _ _ _ _)) (fun _ h520 => Ku_ite (Ku_c h520 (ih _ _ _)) (Ku_ob (Ku_c h520 (ku_fail _ _ _ _)) (fun _ h521 => Ku_c h521 (ih _ _ _))))
    | 18 =>
      refine Ku_eq (by rw [x_range]) ?_
      exact Ku_ite (Ku_c rfl (ih _ _ _)) (Ku_ite (Ku_c rfl (ih _ _ _)) (Ku_c rfl (ih _ _ _)))
    | 19 =>
      refine Ku_eq (by rw [x_range]) ?_
      exact Ku_c rfl (ih _ _ _)
    | 20 =>
      refine Ku_eq (by rw [x_range]) ?_
      exact Ku_c rfl (ih _ _ _)
    | 21 =>
      refine Ku_eq (by rw [x_range]) ?_
      exact Ku_ob (Ku_c rfl (ku_add _ _ _ _)) (fun _ h522 => Ku_ite (Ku_c h522 (ih _ _ _)) (Ku_c h522 (ih _ _ _)))
    | 22 =>
      refine Ku_eq (by rw [x_range]) ?_
      exact Ku_c rfl (ih _ _ _)
    | 23 =>
      refine Ku_eq (by rw [x_range]) ?_
      exact Ku_c rfl (ih _ _ _)
    | 24 =>
      refine Ku_eq (by rw [x_range]) ?_
      exact Ku_ite (Ku_c rfl (ih _ _ _)) (Ku_so rfl)
    | 25 =>
      refine Ku_eq (by rw [x_range]) ?_
      exact Ku_ite (Ku_c rfl (ih _ _ _)) (Ku_ob (Ku_c rfl (ku_setOf _ _ _ _)) (fun _ h523 => Ku_c h523 (ih _ _ _)))
    | 26 =>
      refine Ku_eq (by rw [x_range]) ?_
      exact Ku_ob (Ku_c rfl (ku_tupleOf _ _ _ _)) (fun _ h524 => Ku_c h524 (ih _ _ _))
    | 27 =>
      refine Ku_eq (by rw [x_range]) ?_
      exact Ku_so rfl
    | b + 28 =>
      refine Ku_eq (by rw [x_range]) (Ku_no _)
theorem ku_isOver : ∀ (k b : Nat) (L : Nat → Int32) (σ : MS), Ku (x_isOver k b L σ) (ku σ) := by
  intro k
  induction k with
  | zero => intro b L σ; exact Ku_no _
  | succ k ih =>
    intro b L σ
    match b with
    | 0 =>
      refine Ku_eq (by rw [x_isOver]) ?_
      exact Ku_ite (Ku_c rfl (ih _ _ _)) (Ku_ite (Ku_c rfl (ih _ _ _)) (Ku_ite (Ku_c rfl (ih _ _ _)) (Ku_ite (Ku_c rfl (ih _ _ _)) (Ku_ite (Ku_c rfl (ih _ _ _)) (Ku_ite (Ku_c rfl (ih _ _ _)) (Ku_ite (Ku_c rfl (ih _ _ _)) (Ku_c rfl (ih _ _ _))))))))
    | 1 =>
      refine Ku_eq (by rw [x_isOver]) ?_
      exact Ku_c rfl (ih _ _ _)
    | 2 =>
      refine Ku_eq (by rw [x_isOver]) ?_
      exact Ku_c rfl (ih _ _ _)
    | 3 =>
      refine Ku_eq (by rw [x_isOver]) ?_
      exact Ku_ite (Ku_so rfl) (Ku_no _)
    | b + 4 =>
      refine Ku_eq (by rw [x_isOver]) (Ku_no _)
theorem ku_bindOne : ∀ (k b : Nat) (L : Nat → Int32) (σ : MS), Ku (x_bindOne k b L σ) (ku σ) := by
  intro k
  induction k with
  | zero => intro b L σ; exact Ku_no _
  | succ k ih =>
    intro b L σ
    match b with
    | 0 =>
      refine Ku_eq (by rw [x_bindOne]) ?_
      exact Ku_ite (Ku_ite (Ku_ite (Ku_ite (Ku_c rfl (ih _ _ _)) (Ku_no _)) (Ku_no _)) (Ku_c rfl (ih _ _ _))) (Ku_no _)
    | 1 =>
      refine Ku_eq (by rw [x_bindOne]) ?_
      exact Ku_ite (Ku_c rfl (ih _ _ _)) (Ku_ite (Ku_ite (Ku_c rfl (ih _ _ _)) (Ku_no _)) (Ku_no _))
    | 2 =>
      refine Ku_eq (by rw [x_bindOne]) ?_
      exact Ku_ite (Ku_ite (Ku_ite (Ku_c rfl (ih _ _ _)) (Ku_no _)) (Ku_no _)) (Ku_no _)
    | 3 =>
      refine Ku_eq (by rw [x_bindOne]) ?_
      exact Ku_so rfl
    | b + 4 =>
      refine Ku_eq (by rw [x_bindOne]) (Ku_no _)
theorem ku_clear : ∀ (k b : Nat) (L : Nat → Int32) (σ : MS), Ku (x_clear k b L σ) (ku σ) := by
  intro k
  induction k with
  | zero => intro b L σ; exact Ku_no _
  | succ k ih =>
    intro b L σ
    match b with
    | 0 =>
      refine Ku_eq (by rw [x_clear]) ?_
      exact Ku_c rfl (ih _ _ _)
    | 1 =>
      refine Ku_eq (by rw [x_clear]) ?_
      exact Ku_ite (Ku_c rfl (ih _ _ _)) (Ku_ite (Ku_c rfl (ih _ _ _)) (Ku_no _))
    | 2 =>
      refine Ku_eq (by rw [x_clear]) ?_
      exact Ku_ite (Ku_c rfl (ih _ _ _)) (Ku_ob (Ku_c rfl (ku_bindOne _ _ _ _)) (fun _ h525 => Ku_ite (Ku_c h525 (ih _ _ _)) (Ku_no _)))
    | 3 =>
      refine Ku_eq (by rw [x_clear]) ?_
      exact Ku_ite (Ku_c rfl (ih _ _ _)) (Ku_no _)
    | 4 =>
      refine Ku_eq (by rw [x_clear]) ?_
      exact Ku_so rfl
    | b + 5 =>
      refine Ku_eq (by rw [x_clear]) (Ku_no _)
theorem ku_bind : ∀ (k b : Nat) (L : Nat → Int32) (σ : MS), Ku (x_bind k b L σ) (ku σ) := by
  intro k
  induction k with
  | zero => intro b L σ; exact Ku_no _
  | succ k ih =>
    intro b L σ
    match b with
    | 0 =>
      refine Ku_eq (by rw [x_bind]) ?_
      exact Ku_ite (Ku_ite (Ku_ite (Ku_ob (Ku_c rfl (ku_bindOne _ _ _ _)) (fun _ h526 => Ku_so h526)) (Ku_no _)) (Ku_c rfl (ih _ _ _))) (Ku_no _)
    | 1 =>
      refine Ku_eq (by rw [x_bind]) ?_
      exact Ku_ite (Ku_c rfl (ih _ _ _)) (Ku_no _)
    | 2 =>
      refine Ku_eq (by rw [x_bind]) ?_
      exact Ku_ite (Ku_c rfl (ih _ _ _)) (Ku_ite (Ku_c rfl (ih _ _ _)) (Ku_no _))
    | 3 =>
      refine Ku_eq (by rw [x_bind]) ?_
      exact Ku_ob (Ku_c rfl (ku_kind _ _ _ _)) (fun _ h527 => Ku_ite (Ku_ite (Ku_ite (Ku_c h527 (ih _ _ _)) (Ku_c h527 (ih _ _ _))) (Ku_no _)) (Ku_c h527 (ih _ _ _)))
    | 4 =>
      refine Ku_eq (by rw [x_bind]) ?_
      exact Ku_ob (Ku_c rfl (ku_fail _ _ _ _)) (fun _ h528 => Ku_so h528)
    | 5 =>
      refine Ku_eq (by rw [x_bind]) ?_
      exact Ku_ite (Ku_c rfl (ih _ _ _)) (Ku_no _)
    | 6 =>
      refine Ku_eq (by rw [x_bind]) ?_
      exact Ku_ite (Ku_c rfl (ih _ _ _)) (Ku_ite (Ku_ite (Ku_c rfl (ih _ _ _)) (Ku_ite (Ku_c rfl (ih _ _ _)) (Ku_no _))) (Ku_no _))
    | 7 =>
      refine Ku_eq (by rw [x_bind]) ?_
      exact Ku_c rfl (ih _ _ _)
    | 8 =>
      refine Ku_eq (by rw [x_bind]) ?_
      exact Ku_ob (Ku_c rfl (ku_bindOne _ _ _ _)) (fun _ h529 => Ku_ite (Ku_c h529 (ih _ _ _)) (Ku_no _))
    | 9 =>
      refine Ku_eq (by rw [x_bind]) ?_
      exact Ku_so rfl
    | b + 10 =>
      refine Ku_eq (by rw [x_bind]) (Ku_no _)
theorem ku_stepIter : ∀ (k b : Nat) (L : Nat → Int32) (σ : MS), Ku (x_stepIter k b L σ) (ku σ) := by
  intro k
  induction k with
  | zero => intro b L σ; exact Ku_no _
  | succ k ih =>
    intro b L σ
    match b with
    | 0 =>
      refine Ku_eq (by rw [x_stepIter]) ?_
      exact Ku_ite (Ku_ite (Ku_ite (Ku_ite (Ku_so rfl) (Ku_c rfl (ih _ _ _))) (Ku_no _)) (Ku_no _)) (Ku_no _)
    | 1 =>
      refine Ku_eq (by rw [x_stepIter]) ?_
      exact Ku_ite (Ku_c rfl (ih _ _ _)) (Ku_no _)
    | 2 =>
      refine Ku_eq (by rw [x_stepIter]) ?_
      exact Ku_ob (Ku_c rfl (ku_worked _ _ _ _)) (fun _ h530 => Ku_ite (Ku_ob (Ku_c h530 (ku_memberAt _ _ _ _)) (fun _ h531 => Ku_ob (Ku_c h531 (ku_bind _ _ _ _)) (fun _ h532 => Ku_c h532 (ih _ _ _)))) (Ku_c h530 (ih _ _ _)))
    | 3 =>
      refine Ku_eq (by rw [x_stepIter]) ?_
      exact Ku_ite (Ku_c rfl (ih _ _ _)) (Ku_c rfl (ih _ _ _))
    | 4 =>
      refine Ku_eq (by rw [x_stepIter]) ?_
      exact Ku_c rfl (ih _ _ _)
    | 5 =>
      refine Ku_eq (by rw [x_stepIter]) ?_
      exact Ku_ite (Ku_so rfl) (Ku_no _)
    | b + 6 =>
      refine Ku_eq (by rw [x_stepIter]) (Ku_no _)
theorem ku_isTrue : ∀ (k b : Nat) (L : Nat → Int32) (σ : MS), Ku (x_isTrue k b L σ) (ku σ) := by
  intro k
  induction k with
  | zero => intro b L σ; exact Ku_no _
  | succ k ih =>
    intro b L σ
    match b with
    | 0 =>
      refine Ku_eq (by rw [x_isTrue]) ?_
      exact Ku_ob (Ku_c rfl (ku_pop _ _ _ _)) (fun _ h533 => Ku_ite (Ku_c h533 (ih _ _ _)) (Ku_ite (Ku_c h533 (ih _ _ _)) (Ku_ob (Ku_c h533 (ku_fail _ _ _ _)) (fun _ h534 => Ku_c h534 (ih _ _ _)))))
    | 1 =>
      refine Ku_eq (by rw [x_isTrue]) ?_
      exact Ku_ite (Ku_c rfl (ih _ _ _)) (Ku_c rfl (ih _ _ _))
    | 2 =>
      refine Ku_eq (by rw [x_isTrue]) ?_
      exact Ku_c rfl (ih _ _ _)
    | 3 =>
      refine Ku_eq (by rw [x_isTrue]) ?_
      exact Ku_ite (Ku_so rfl) (Ku_no _)
    | b + 4 =>
      refine Ku_eq (by rw [x_isTrue]) (Ku_no _)
theorem ku_isSlice : ∀ (k b : Nat) (L : Nat → Int32) (σ : MS), Ku (x_isSlice k b L σ) (ku σ) := by
  intro k
  induction k with
  | zero => intro b L σ; exact Ku_no _
  | succ k ih =>
    intro b L σ
    match b with
    | 0 =>
      refine Ku_eq (by rw [x_isSlice]) ?_
      exact Ku_ob (Ku_c rfl (ku_kind _ _ _ _)) (fun _ h535 => Ku_ite (Ku_c h535 (ih _ _ _)) (Ku_ite (Ku_c h535 (ih _ _ _)) (Ku_c h535 (ih _ _ _))))
    | 1 =>
      refine Ku_eq (by rw [x_isSlice]) ?_
      exact Ku_ob (Ku_c rfl (ku_kind _ _ _ _)) (fun _ h536 => Ku_ite (Ku_ob (Ku_c h536 (ku_kind _ _ _ _)) (fun _ h537 => Ku_ite (Ku_c h537 (ih _ _ _)) (Ku_c h537 (ih _ _ _)))) (Ku_c h536 (ih _ _ _)))
    | 2 =>
      refine Ku_eq (by rw [x_isSlice]) ?_
      exact Ku_ob (Ku_c rfl (ku_fail _ _ _ _)) (fun _ h538 => Ku_so h538)
    | 3 =>
      refine Ku_eq (by rw [x_isSlice]) ?_
      exact Ku_ob (Ku_c rfl (ku_intOf _ _ _ _ _)) (fun _ h539 => Ku_c h539 (ih _ _ _))
    | 4 =>
      refine Ku_eq (by rw [x_isSlice]) ?_
      exact Ku_ob (Ku_c rfl (ku_intOf _ _ _ _ _)) (fun _ h540 => Ku_c h540 (ih _ _ _))
    | 5 =>
      refine Ku_eq (by rw [x_isSlice]) ?_
      exact Ku_so rfl
    | b + 6 =>
      refine Ku_eq (by rw [x_isSlice]) (Ku_no _)
theorem ku_isSliceIn : ∀ (k b : Nat) (L : Nat → Int32) (σ : MS), Ku (x_isSliceIn k b L σ) (ku σ) := by
  intro k
  induction k with
  | zero => intro b L σ; exact Ku_no _
  | succ k ih =>
    intro b L σ
    match b with
    | 0 =>
      refine Ku_eq (by rw [x_isSliceIn]) ?_
      exact Ku_ite (Ku_c rfl (ih _ _ _)) (Ku_ite (Ku_c rfl (ih _ _ _)) (Ku_ite (Ku_ite (Ku_c rfl (ih _ _ _)) (Ku_c rfl (ih _ _ _))) (Ku_no _)))
    | 1 =>
      refine Ku_eq (by rw [x_isSliceIn]) ?_
      exact Ku_ob (Ku_c rfl (ku_fail _ _ _ _)) (fun _ h541 => Ku_so h541)
    | 2 =>
      refine Ku_eq (by rw [x_isSliceIn]) ?_
      exact Ku_so rfl
    | b + 3 =>
      refine Ku_eq (by rw [x_isSliceIn]) (Ku_no _)
theorem ku_stringOf__28 : ∀ (k b : Nat) (L : Nat → Int32) (σ : MS), Ku (x_stringOf__28 k b L σ) (ku σ) := by
  intro k
  induction k with
  | zero => intro b L σ; exact Ku_no _
  | succ k ih =>
    intro b L σ
    match b with
    | 0 =>
      refine Ku_eq (by rw [x_stringOf__28]) ?_
      exact Ku_ite (Ku_no _) (Ku_ite (Ku_c rfl (ih _ _ _)) (Ku_ob (Ku_c rfl (ku_fail _ _ _ _)) (fun _ h542 => Ku_so h542)))
    | 1 =>
      refine Ku_eq (by rw [x_stringOf__28]) ?_
      exact Ku_ob (Ku_c rfl (ku_make _ _ _ _)) (fun _ h543 => Ku_c h543 (ih _ _ _))
    | 2 =>
      refine Ku_eq (by rw [x_stringOf__28]) ?_
      exact Ku_ite (Ku_c rfl (ih _ _ _)) (Ku_ite (Ku_ite (Ku_ite (Ku_c rfl (ih _ _ _)) (Ku_no _)) (Ku_no _)) (Ku_c rfl (ih _ _ _)))
    | 3 =>
      refine Ku_eq (by rw [x_stringOf__28]) ?_
      exact Ku_c rfl (ih _ _ _)
    | 4 =>
      refine Ku_eq (by rw [x_stringOf__28]) ?_
      exact Ku_ite (Ku_no _) (Ku_ite (Ku_c rfl (ih _ _ _)) (Ku_no _))
    | 5 =>
      refine Ku_eq (by rw [x_stringOf__28]) ?_
      exact Ku_so rfl
    | b + 6 =>
      refine Ku_eq (by rw [x_stringOf__28]) (Ku_no _)
theorem ku_slice : ∀ (k b : Nat) (L : Nat → Int32) (σ : MS), Ku (x_slice k b L σ) (ku σ) := by
  intro k
  induction k with
  | zero => intro b L σ; exact Ku_no _
  | succ k ih =>
    intro b L σ
    match b with
    | 0 =>
      refine Ku_eq (by rw [x_slice]) ?_
      exact Ku_ob (Ku_c rfl (ku_isSlice _ _ _ _)) (fun _ h544 => Ku_ite (Ku_c h544 (ih _ _ _)) (Ku_ob (Ku_c h544 (ku_isSliceIn _ _ _ _)) (fun _ h545 => Ku_ite (Ku_c h545 (ih _ _ _)) (Ku_c h545 (ih _ _ _)))))
    | 1 =>
      refine Ku_eq (by rw [x_slice]) ?_
      exact Ku_so rfl
    | 2 =>
      refine Ku_eq (by rw [x_slice]) ?_
      exact Ku_ite (Ku_ite (Ku_ob (Ku_c rfl (ku_stringOf__28 _ _ _ _)) (fun _ h546 => Ku_so h546)) (Ku_c rfl (ih _ _ _))) (Ku_no _)
    | 3 =>
      refine Ku_eq (by rw [x_slice]) ?_
      exact Ku_c rfl (ih _ _ _)
    | 4 =>
      refine Ku_eq (by rw [x_slice]) ?_
      exact Ku_ite (Ku_c rfl (ih _ _ _)) (Ku_ite (Ku_ob (Ku_c rfl (ku_push _ _ _ _)) (fun _ h547 => Ku_c h547 (ih _ _ _))) (Ku_no _))
    | 5 =>
      refine Ku_eq (by rw [x_slice]) ?_
      exact Ku_ob (Ku_c rfl (ku_tupleOf _ _ _ _)) (fun _ h548 => Ku_so h548)
    | b + 6 =>
      refine Ku_eq (by rw [x_slice]) (Ku_no _)
theorem ku_partAt : ∀ (k b : Nat) (L : Nat → Int32) (σ : MS), Ku (x_partAt k b L σ) (ku σ) := by
  intro k
  induction k with
  | zero => intro b L σ; exact Ku_no _
  | succ k ih =>
    intro b L σ
    match b with
    | 0 =>
      refine Ku_eq (by rw [x_partAt]) ?_
      exact Ku_ob (Ku_c rfl (ku_kind _ _ _ _)) (fun _ h549 => Ku_ite (Ku_c h549 (ih _ _ _)) (Ku_ite (Ku_c h549 (ih _ _ _)) (Ku_c h549 (ih _ _ _))))
    | 1 =>
      refine Ku_eq (by rw [x_partAt]) ?_
      exact Ku_ob (Ku_c rfl (ku_kind _ _ _ _)) (fun _ h550 => Ku_ite (Ku_c h550 (ih _ _ _)) (Ku_ob (Ku_c h550 (ku_wrongKind _ _ _ _)) (fun _ h551 => Ku_so h551)))
    | 2 =>
      refine Ku_eq (by rw [x_partAt]) ?_
      exact Ku_ob (Ku_c rfl (ku_intOf _ _ _ _ _)) (fun _ h552 => Ku_ite (Ku_c h552 (ih _ _ _)) (Ku_ob (Ku_c h552 (ku_fail _ _ _ _)) (fun _ h553 => Ku_so h553)))
    | 3 =>
      refine Ku_eq (by rw [x_partAt]) ?_
      exact Ku_ite (Ku_ite (Ku_c rfl (ih _ _ _)) (Ku_c rfl (ih _ _ _))) (Ku_no _)
    | 4 =>
      refine Ku_eq (by rw [x_partAt]) ?_
      exact Ku_ob (Ku_c rfl (ku_memberAt _ _ _ _)) (fun _ h554 => Ku_c h554 (ih _ _ _))
    | 5 =>
      refine Ku_eq (by rw [x_partAt]) ?_
      exact Ku_so rfl
    | 6 =>
      refine Ku_eq (by rw [x_partAt]) ?_
      exact Ku_ob (Ku_c rfl (ku_isMap _ _ _ _)) (fun _ h555 => Ku_ite (Ku_ob (Ku_c h555 (ku_wrongKind _ _ _ _)) (fun _ h556 => Ku_so h556)) (Ku_c h555 (ih _ _ _)))
    | 7 =>
      refine Ku_eq (by rw [x_partAt]) ?_
      exact Ku_c rfl (ih _ _ _)
    | 8 =>
      refine Ku_eq (by rw [x_partAt]) ?_
      exact Ku_ite (Ku_ite (Ku_c rfl (ih _ _ _)) (Ku_ite (Ku_ite (Ku_ob (Ku_c rfl (ku_compare _ _ _ _)) (fun _ h557 => Ku_ite (Ku_ite (Ku_c h557 (ih _ _ _)) (Ku_no _)) (Ku_c h557 (ih _ _ _)))) (Ku_no _)) (Ku_no _))) (Ku_no _)
    | 9 =>
      refine Ku_eq (by rw [x_partAt]) ?_
      exact Ku_c rfl (ih _ _ _)
    | 10 =>
      refine Ku_eq (by rw [x_partAt]) ?_
      exact Ku_ite (Ku_c rfl (ih _ _ _)) (Ku_c rfl (ih _ _ _))
    | 11 =>
      refine Ku_eq (by rw [x_partAt]) ?_
      exact Ku_c rfl (ih _ _ _)
    | 12 =>
      refine Ku_eq (by rw [x_partAt]) ?_
      exact Ku_so rfl
    | b + 13 =>
      refine Ku_eq (by rw [x_partAt]) (Ku_no _)
theorem ku_image : ∀ (k b : Nat) (L : Nat → Int32) (σ : MS), Ku (x_image k b L σ) (ku σ) := by
  intro k
  induction k with
  | zero => intro b L σ; exact Ku_no _
  | succ k ih =>
    intro b L σ
    match b with
    | 0 =>
      refine Ku_eq (by rw [x_image]) ?_
      exact Ku_ob (Ku_c rfl (ku_isMap _ _ _ _)) (fun _ h558 => Ku_ite (Ku_ob (Ku_c h558 (ku_wrongKind _ _ _ _)) (fun _ h559 => Ku_so h559)) (Ku_c h558 (ih _ _ _)))
    | 1 =>
      refine Ku_eq (by rw [x_image]) ?_
      exact Ku_c rfl (ih _ _ _)
    | 2 =>
      refine Ku_eq (by rw [x_image]) ?_
      exact Ku_ite (Ku_ite (Ku_c rfl (ih _ _ _)) (Ku_ite (Ku_ite (Ku_ob (Ku_c rfl (ku_compare _ _ _ _)) (fun _ h560 => Ku_ite (Ku_ite (Ku_ob (Ku_c h560 (ku_push _ _ _ _)) (fun _ h561 => Ku_c h561 (ih _ _ _))) (Ku_no _)) (Ku_c h560 (ih _ _ _)))) (Ku_no _)) (Ku_no _))) (Ku_no _)
    | 3 =>
      refine Ku_eq (by rw [x_image]) ?_
      exact Ku_c rfl (ih _ _ _)
    | 4 =>
      refine Ku_eq (by rw [x_image]) ?_
      exact Ku_ob (Ku_c rfl (ku_setOf _ _ _ _)) (fun _ h562 => Ku_so h562)
    | b + 5 =>
      refine Ku_eq (by rw [x_image]) (Ku_no _)
theorem ku_isRow : ∀ (k b : Nat) (L : Nat → Int32) (σ : MS), Ku (x_isRow k b L σ) (ku σ) := by
  intro k
  induction k with
  | zero => intro b L σ; exact Ku_no _
  | succ k ih =>
    intro b L σ
    match b with
    | 0 =>
      refine Ku_eq (by rw [x_isRow]) ?_
      exact Ku_ob (Ku_c rfl (ku_kind _ _ _ _)) (fun _ h563 => Ku_ite (Ku_c h563 (ih _ _ _)) (Ku_c h563 (ih _ _ _)))
    | 1 =>
      refine Ku_eq (by rw [x_isRow]) ?_
      exact Ku_c rfl (ih _ _ _)
    | 2 =>
      refine Ku_eq (by rw [x_isRow]) ?_
      exact Ku_ite (Ku_so rfl) (Ku_no _)
    | b + 3 =>
      refine Ku_eq (by rw [x_isRow]) (Ku_no _)
theorem ku_s_begins {X : Nat → Nat → Nat → (Nat → Int32) → MS → Option (Int32 × MS)} (hX : ∀ e m b L (σ : MS), Ku (X e m b L σ) (ku σ)) (k d b : Nat) (L : Nat → Int32) (σ : MS) : Ku (s_begins X k d b L σ) (ku σ) := by
  match b with
  | 0 => exact Ku_ite (Ku_c rfl (hX _ _ _ _ _)) (Ku_so rfl)
  | 1 => exact Ku_ite (Ku_ite (Ku_c rfl (hX _ _ _ _ _)) (Ku_ite (Ku_c rfl (hX _ _ _ _ _)) (Ku_ite (Ku_c rfl (hX _ _ _ _ _)) (Ku_ite (Ku_c rfl (hX _ _ _ _ _)) (Ku_ite (Ku_c rfl (hX _ _ _ _ _)) (Ku_ite (Ku_c rfl (hX _ _ _ _ _)) (Ku_ite (Ku_c rfl (hX _ _ _ _ _)) (Ku_ite (Ku_c rfl (hX _ _ _ _ _)) (Ku_ite (Ku_c rfl (hX _ _ _ _ _)) (Ku_ite (Ku_c rfl (hX _ _ _ _ _)) (Ku_ite (Ku_c rfl (hX _ _ _ _ _)) (Ku_ite (Ku_c rfl (hX _ _ _ _ _)) (Ku_ite (Ku_c rfl (hX _ _ _ _ _)) (Ku_ite (Ku_c rfl (hX _ _ _ _ _)) (Ku_ite (Ku_c rfl (hX _ _ _ _ _)) (Ku_c rfl (hX _ _ _ _ _))))))))))))))))) (Ku_no _)
  | 2 => exact Ku_ob (Ku_c rfl (ku_sweep _ _ _ _)) (fun _ h564 => Ku_ite (Ku_ite (Ku_ob (Ku_c h564 (ku_literal _ _ _ _)) (fun _ h565 => Ku_ob (Ku_c h565 (ku_answer _ _ _ _)) (fun _ h566 => Ku_ob (Ku_c h566 (ku_push _ _ _ _)) (fun _ h567 => Ku_so h567)))) (Ku_no _)) (Ku_no _))
  | 3 => exact Ku_ob (Ku_c rfl (ku_sweep _ _ _ _)) (fun _ h568 => Ku_ite (Ku_ite (Ku_ob (Ku_c h568 (ku_stringOf__12 _ _ _ _)) (fun _ h569 => Ku_ob (Ku_c h569 (ku_answer _ _ _ _)) (fun _ h570 => Ku_ob (Ku_c h570 (ku_push _ _ _ _)) (fun _ h571 => Ku_so h571)))) (Ku_no _)) (Ku_no _))
  | 4 => exact Ku_ob (Ku_c rfl (ku_push _ _ _ _)) (fun _ h572 => Ku_so h572)
  | 5 => exact Ku_ob (Ku_c rfl (ku_push _ _ _ _)) (fun _ h573 => Ku_so h573)
  | 6 => exact Ku_ob (Ku_c rfl (ku_push _ _ _ _)) (fun _ h574 => Ku_so h574)
  | 7 => exact Ku_ob (Ku_c rfl (ku_sweep _ _ _ _)) (fun _ h575 => Ku_ob (Ku_c h575 (ku_newAtom _ _ _ _)) (fun _ h576 => Ku_ob (Ku_c h576 (ku_answer _ _ _ _)) (fun _ h577 => Ku_ob (Ku_c h577 (ku_push _ _ _ _)) (fun _ h578 => Ku_so h578))))
  | 8 => exact Ku_ob (Ku_c rfl (ku_valueOf _ _ _ _)) (fun _ h579 => Ku_ob (Ku_c h579 (ku_push _ _ _ _)) (fun _ h580 => Ku_so h580))
  | 9 => exact Ku_od (fun _ => Ku_ob (Ku_c rfl (hX _ _ _ _ _)) (fun _ h581 => Ku_so h581))
  | 10 => exact Ku_od (fun _ => Ku_ob (Ku_c rfl (hX _ _ _ _ _)) (fun _ h582 => Ku_so h582))
  | 11 => exact Ku_od (fun _ => Ku_ob (Ku_c rfl (hX _ _ _ _ _)) (fun _ h583 => Ku_so h583))
  | 12 => exact Ku_od (fun _ => Ku_ob (Ku_c rfl (hX _ _ _ _ _)) (fun _ h584 => Ku_so h584))
  | 13 => exact Ku_od (fun _ => Ku_ob (Ku_c rfl (hX _ _ _ _ _)) (fun _ h585 => Ku_so h585))
  | 14 => exact Ku_od (fun _ => Ku_ob (Ku_c rfl (hX _ _ _ _ _)) (fun _ h586 => Ku_so h586))
  | 15 => exact Ku_od (fun _ => Ku_ob (Ku_c rfl (hX _ _ _ _ _)) (fun _ h587 => Ku_so h587))
  | 16 => exact Ku_ite (Ku_od (fun _ => Ku_ob (Ku_c rfl (hX _ _ _ _ _)) (fun _ h588 => Ku_ite (Ku_ob (Ku_c h588 (ku_sweep _ _ _ _)) (fun _ h589 => Ku_ob (Ku_c h589 (ku_pop _ _ _ _)) (fun _ h590 => Ku_ob (Ku_c h590 (ku_single _ _ _ _)) (fun _ h591 => Ku_ob (Ku_c h591 (ku_answer _ _ _ _)) (fun _ h592 => Ku_ob (Ku_c h592 (ku_push _ _ _ _)) (fun _ h593 => Ku_c h593 (hX _ _ _ _ _))))))) (Ku_c h588 (hX _ _ _ _ _))))) (Ku_no _)
  | 17 => exact Ku_so rfl
  | b + 18 => exact Ku_no _
theorem ku_s_bounds {X : Nat → Nat → Nat → (Nat → Int32) → MS → Option (Int32 × MS)} (hX : ∀ e m b L (σ : MS), Ku (X e m b L σ) (ku σ)) (k d b : Nat) (L : Nat → Int32) (σ : MS) : Ku (s_bounds X k d b L σ) (ku σ) := by
  match b with
  | 0 => exact Ku_ite (Ku_od (fun _ => Ku_ob (Ku_c rfl (hX _ _ _ _ _)) (fun _ h594 => Ku_ite (Ku_ite (Ku_c h594 (hX _ _ _ _ _)) (Ku_ite (Ku_ite (Ku_od (fun _ => Ku_ob (Ku_c h594 (hX _ _ _ _ _)) (fun _ h595 => Ku_c h595 (hX _ _ _ _ _)))) (Ku_no _)) (Ku_c h594 (hX _ _ _ _ _)))) (Ku_no _)))) (Ku_no _)
  | 1 => exact Ku_ite (Ku_ite (Ku_od (fun _ => Ku_ob (Ku_c rfl (hX _ _ _ _ _)) (fun _ h596 => Ku_c h596 (hX _ _ _ _ _)))) (Ku_no _)) (Ku_c rfl (hX _ _ _ _ _))
  | 2 => exact Ku_ite (Ku_ob (Ku_c rfl (ku_sweep _ _ _ _)) (fun _ h597 => Ku_ite (Ku_ite (Ku_c h597 (hX _ _ _ _ _)) (Ku_c h597 (hX _ _ _ _ _))) (Ku_no _))) (Ku_c rfl (hX _ _ _ _ _))
  | 3 => exact Ku_c rfl (hX _ _ _ _ _)
  | 4 => exact Ku_ite (Ku_ite (Ku_c rfl (hX _ _ _ _ _)) (Ku_c rfl (hX _ _ _ _ _))) (Ku_no _)
  | 5 => exact Ku_c rfl (hX _ _ _ _ _)
  | 6 => exact Ku_ob (Ku_c rfl (ku_range _ _ _ _)) (fun _ h598 => Ku_ob (Ku_c h598 (ku_answer _ _ _ _)) (fun _ h599 => Ku_ob (Ku_c h599 (ku_push _ _ _ _)) (fun _ h600 => Ku_c h600 (hX _ _ _ _ _))))
  | 7 => exact Ku_so rfl
  | b + 8 => exact Ku_no _
theorem ku_s_callFunc {X : Nat → Nat → Nat → (Nat → Int32) → MS → Option (Int32 × MS)} (hX : ∀ e m b L (σ : MS), Ku (X e m b L σ) (ku σ)) (k d b : Nat) (L : Nat → Int32) (σ : MS) : Ku (s_callFunc X k d b L σ) (ku σ) := by
  match b with
  | 0 => exact Ku_ite (Ku_c rfl (hX _ _ _ _ _)) (Ku_no _)
  | 1 => exact Ku_ite (Ku_c rfl (hX _ _ _ _ _)) (Ku_ite (Ku_od (fun _ => Ku_ob (Ku_c rfl (hX _ _ _ _ _)) (fun _ h601 => Ku_ite (Ku_c h601 (hX _ _ _ _ _)) (Ku_no _)))) (Ku_c rfl (hX _ _ _ _ _)))
  | 2 => exact Ku_ite (Ku_c rfl (hX _ _ _ _ _)) (Ku_so rfl)
  | 3 => exact Ku_ite (Ku_c rfl (hX _ _ _ _ _)) (Ku_ite (Ku_ite (Ku_c rfl (hX _ _ _ _ _)) (Ku_c rfl (hX _ _ _ _ _))) (Ku_no _))
  | 4 => exact Ku_ob (Ku_c rfl (ku_fail _ _ _ _)) (fun _ h602 => Ku_so h602)
  | 5 => exact Ku_ob (Ku_c rfl (ku_sweep _ _ _ _)) (fun _ h603 => Ku_ite (Ku_c h603 (hX _ _ _ _ _)) (Ku_no _))
  | 6 => exact Ku_ite (Ku_c rfl (hX _ _ _ _ _)) (Ku_no _)
  | 7 => exact Ku_c rfl (hX _ _ _ _ _)
  | 8 => exact Ku_c rfl (hX _ _ _ _ _)
  | 9 => exact Ku_c rfl (hX _ _ _ _ _)
  | 10 => exact Ku_ite (Ku_c rfl (hX _ _ _ _ _)) (Ku_ite (Ku_ite (Ku_c rfl (hX _ _ _ _ _)) (Ku_ite (Ku_c rfl (hX _ _ _ _ _)) (Ku_no _))) (Ku_no _))
  | 11 => exact Ku_c rfl (hX _ _ _ _ _)
  | 12 => exact Ku_ite (Ku_c rfl (hX _ _ _ _ _)) (Ku_no _)
  | 13 => exact Ku_c rfl (hX _ _ _ _ _)
  | 14 => exact Ku_c rfl (hX _ _ _ _ _)
  | 15 => exact Ku_ite (Ku_od (fun _ => Ku_ob (Ku_c rfl (hX _ _ _ _ _)) (fun _ h604 => Ku_c h604 (hX _ _ _ _ _)))) (Ku_no _)
  | 16 => exact Ku_ite (Ku_c rfl (hX _ _ _ _ _)) (Ku_ite (Ku_c rfl (hX _ _ _ _ _)) (Ku_no _))
  | 17 => exact Ku_c rfl (hX _ _ _ _ _)
  | 18 => exact Ku_c rfl (hX _ _ _ _ _)
  | 19 => exact Ku_ite (Ku_c rfl (hX _ _ _ _ _)) (Ku_no _)
  | 20 => exact Ku_c rfl (hX _ _ _ _ _)
  | 21 => exact Ku_ite (Ku_c rfl (hX _ _ _ _ _)) (Ku_no _)
  | 22 => exact Ku_ite (Ku_ite (Ku_ob (Ku_c rfl (ku_answer _ _ _ _)) (fun _ h605 => Ku_c h605 (hX _ _ _ _ _))) (Ku_no _)) (Ku_c rfl (hX _ _ _ _ _))
  | 23 => exact Ku_so rfl
  | b + 24 => exact Ku_no _
theorem ku_s_choose {X : Nat → Nat → Nat → (Nat → Int32) → MS → Option (Int32 × MS)} (hX : ∀ e m b L (σ : MS), Ku (X e m b L σ) (ku σ)) (k d b : Nat) (L : Nat → Int32) (σ : MS) : Ku (s_choose X k d b L σ) (ku σ) := by
  match b with
  | 0 => exact Ku_ite (Ku_c rfl (hX _ _ _ _ _)) (Ku_no _)
  | 1 => exact Ku_ite (Ku_c rfl (hX _ _ _ _ _)) (Ku_ite (Ku_ite (Ku_ite (Ku_c rfl (hX _ _ _ _ _)) (Ku_ite (Ku_od (fun _ => Ku_ob (Ku_c rfl (hX _ _ _ _ _)) (fun _ h606 => Ku_ite (Ku_c h606 (hX _ _ _ _ _)) (Ku_c h606 (hX _ _ _ _ _))))) (Ku_no _))) (Ku_no _)) (Ku_c rfl (hX _ _ _ _ _)))
  | 2 => exact Ku_c rfl (hX _ _ _ _ _)
  | 3 => exact Ku_ite (Ku_c rfl (hX _ _ _ _ _)) (Ku_no _)
  | 4 => exact Ku_ite (Ku_ite (Ku_od (fun _ => Ku_ob (Ku_c rfl (hX _ _ _ _ _)) (fun _ h607 => Ku_c h607 (hX _ _ _ _ _)))) (Ku_no _)) (Ku_c rfl (hX _ _ _ _ _))
  | 5 => exact Ku_so rfl
  | b + 6 => exact Ku_no _
theorem ku_s_eval {X : Nat → Nat → Nat → (Nat → Int32) → MS → Option (Int32 × MS)} (hX : ∀ e m b L (σ : MS), Ku (X e m b L σ) (ku σ)) (k d b : Nat) (L : Nat → Int32) (σ : MS) : Ku (s_eval X k d b L σ) (ku σ) := by
  match b with
  | 0 => exact Ku_c rfl (hX _ _ _ _ _)
  | 1 => exact Ku_ite (Ku_ob (Ku_c rfl (ku_isOver _ _ _ _)) (fun _ h608 => Ku_ite (Ku_c h608 (hX _ _ _ _ _)) (Ku_ite (Ku_c h608 (hX _ _ _ _ _)) (Ku_no _)))) (Ku_no _)
  | 2 => exact Ku_od (fun _ => Ku_ob (Ku_c rfl (hX _ _ _ _ _)) (fun _ h609 => Ku_c h609 (hX _ _ _ _ _)))
  | 3 => exact Ku_ite (Ku_c rfl (hX _ _ _ _ _)) (Ku_ite (Ku_ite (Ku_od (fun _ => Ku_ob (Ku_c rfl (hX _ _ _ _ _)) (fun _ h610 => Ku_c h610 (hX _ _ _ _ _)))) (Ku_no _)) (Ku_c rfl (hX _ _ _ _ _)))
  | 4 => exact Ku_so rfl
  | b + 5 => exact Ku_no _
theorem ku_s_former {X : Nat → Nat → Nat → (Nat → Int32) → MS → Option (Int32 × MS)} (hX : ∀ e m b L (σ : MS), Ku (X e m b L σ) (ku σ)) (k d b : Nat) (L : Nat → Int32) (σ : MS) : Ku (s_former X k d b L σ) (ku σ) := by
  match b with
  | 0 => exact Ku_ite (Ku_od (fun _ => Ku_ob (Ku_c rfl (hX _ _ _ _ _)) (fun _ h611 => Ku_c h611 (hX _ _ _ _ _)))) (Ku_no _)
  | 1 => exact Ku_ite (Ku_c rfl (hX _ _ _ _ _)) (Ku_ite (Ku_ite (Ku_ite (Ku_c rfl (hX _ _ _ _ _)) (Ku_ite (Ku_od (fun _ => Ku_ob (Ku_c rfl (hX _ _ _ _ _)) (fun _ h612 => Ku_ite (Ku_c h612 (hX _ _ _ _ _)) (Ku_c h612 (hX _ _ _ _ _))))) (Ku_no _))) (Ku_no _)) (Ku_c rfl (hX _ _ _ _ _)))
  | 2 => exact Ku_ite (Ku_od (fun _ => Ku_ob (Ku_c rfl (hX _ _ _ _ _)) (fun _ h613 => Ku_ite (Ku_ite (Ku_ite (Ku_ite (Ku_ite (Ku_ob (Ku_c h613 (ku_fail _ _ _ _)) (fun _ h614 => Ku_c h614 (hX _ _ _ _ _))) (Ku_c h613 (hX _ _ _ _ _))) (Ku_no _)) (Ku_c h613 (hX _ _ _ _ _))) (Ku_no _)) (Ku_c h613 (hX _ _ _ _ _))))) (Ku_no _)
  | 3 => exact Ku_ite (Ku_ite (Ku_od (fun _ => Ku_ob (Ku_c rfl (hX _ _ _ _ _)) (fun _ h615 => Ku_ite (Ku_c h615 (hX _ _ _ _ _)) (Ku_c h615 (hX _ _ _ _ _))))) (Ku_no _)) (Ku_c rfl (hX _ _ _ _ _))
  | 4 => exact Ku_c rfl (hX _ _ _ _ _)
  | 5 => exact Ku_c rfl (hX _ _ _ _ _)
  | 6 => exact Ku_c rfl (hX _ _ _ _ _)
  | 7 => exact Ku_ite (Ku_ob (Ku_c rfl (ku_clear _ _ _ _)) (fun _ h616 => Ku_ite (Ku_ite (Ku_ite (Ku_ob (Ku_c h616 (ku_setOf _ _ _ _)) (fun _ h617 => Ku_c h617 (hX _ _ _ _ _))) (Ku_c h616 (hX _ _ _ _ _))) (Ku_no _)) (Ku_c h616 (hX _ _ _ _ _)))) (Ku_no _)
  | 8 => exact Ku_ob (Ku_c rfl (ku_tupleOf _ _ _ _)) (fun _ h618 => Ku_c h618 (hX _ _ _ _ _))
  | 9 => exact Ku_ob (Ku_c rfl (ku_answer _ _ _ _)) (fun _ h619 => Ku_ob (Ku_c h619 (ku_push _ _ _ _)) (fun _ h620 => Ku_c h620 (hX _ _ _ _ _)))
  | 10 => exact Ku_so rfl
  | b + 11 => exact Ku_no _
theorem ku_s_goOn {X : Nat → Nat → Nat → (Nat → Int32) → MS → Option (Int32 × MS)} (hX : ∀ e m b L (σ : MS), Ku (X e m b L σ) (ku σ)) (k d b : Nat) (L : Nat → Int32) (σ : MS) : Ku (s_goOn X k d b L σ) (ku σ) := by
  match b with
  | 0 => exact Ku_c rfl (hX _ _ _ _ _)
  | 1 => exact Ku_ite (Ku_ob (Ku_c rfl (ku_sweep _ _ _ _)) (fun _ h621 => Ku_ite (Ku_c h621 (hX _ _ _ _ _)) (Ku_ite (Ku_c h621 (hX _ _ _ _ _)) (Ku_c h621 (hX _ _ _ _ _))))) (Ku_c rfl (hX _ _ _ _ _))
  | 2 => exact Ku_ite (Ku_ite (Ku_c rfl (hX _ _ _ _ _)) (Ku_no _)) (Ku_no _)
  | 3 => exact Ku_ite (Ku_so rfl) (Ku_c rfl (hX _ _ _ _ _))
  | 4 => exact Ku_od (fun _ => Ku_ob (Ku_c rfl (hX _ _ _ _ _)) (fun _ h622 => Ku_ite (Ku_c h622 (hX _ _ _ _ _)) (Ku_so h622)))
  | 5 => exact Ku_ite (Ku_c rfl (hX _ _ _ _ _)) (Ku_no _)
  | 6 => exact Ku_ite (Ku_so rfl) (Ku_c rfl (hX _ _ _ _ _))
  | 7 => exact Ku_ite (Ku_ob (Ku_c rfl (ku_stepIter _ _ _ _)) (fun _ h623 => Ku_ite (Ku_ite (Ku_c h623 (hX _ _ _ _ _)) (Ku_c h623 (hX _ _ _ _ _))) (Ku_c h623 (hX _ _ _ _ _)))) (Ku_no _)
  | 8 => exact Ku_ite (Ku_c rfl (hX _ _ _ _ _)) (Ku_ite (Ku_ite (Ku_ite (Ku_so rfl) (Ku_c rfl (hX _ _ _ _ _))) (Ku_no _)) (Ku_no _))
  | 9 => exact Ku_so rfl
  | b + 10 => exact Ku_no _
theorem ku_s_goesOn {X : Nat → Nat → Nat → (Nat → Int32) → MS → Option (Int32 × MS)} (hX : ∀ e m b L (σ : MS), Ku (X e m b L σ) (ku σ)) (k d b : Nat) (L : Nat → Int32) (σ : MS) : Ku (s_goesOn X k d b L σ) (ku σ) := by
  match b with
  | 0 => exact Ku_ite (Ku_ite (Ku_so rfl) (Ku_c rfl (hX _ _ _ _ _))) (Ku_no _)
  | 1 => exact Ku_ite (Ku_c rfl (hX _ _ _ _ _)) (Ku_ite (Ku_c rfl (hX _ _ _ _ _)) (Ku_c rfl (hX _ _ _ _ _)))
  | 2 => exact Ku_ob (Ku_c rfl (ku_isTrue _ _ _ _)) (fun _ h624 => Ku_ite (Ku_ite (Ku_c h624 (hX _ _ _ _ _)) (Ku_c h624 (hX _ _ _ _ _))) (Ku_c h624 (hX _ _ _ _ _)))
  | 3 => exact Ku_c rfl (hX _ _ _ _ _)
  | 4 => exact Ku_ite (Ku_ite (Ku_od (fun _ => Ku_ob (Ku_c rfl (hX _ _ _ _ _)) (fun _ h625 => Ku_ite (Ku_ob (Ku_c h625 (ku_isTrue _ _ _ _)) (fun _ h626 => Ku_ite (Ku_c h626 (hX _ _ _ _ _)) (Ku_c h626 (hX _ _ _ _ _)))) (Ku_c h625 (hX _ _ _ _ _))))) (Ku_no _)) (Ku_c rfl (hX _ _ _ _ _))
  | 5 => exact Ku_c rfl (hX _ _ _ _ _)
  | 6 => exact Ku_c rfl (hX _ _ _ _ _)
  | 7 => exact Ku_ob (Ku_c rfl (ku_truth _ _ _ _)) (fun _ h627 => Ku_ob (Ku_c h627 (ku_answer _ _ _ _)) (fun _ h628 => Ku_ob (Ku_c h628 (ku_push _ _ _ _)) (fun _ h629 => Ku_so h629)))
  | 8 => exact Ku_ite (Ku_od (fun _ => Ku_ob (Ku_c rfl (hX _ _ _ _ _)) (fun _ h630 => Ku_ite (Ku_ite (Ku_ite (Ku_od (fun _ => Ku_ob (Ku_c h630 (hX _ _ _ _ _)) (fun _ h631 => Ku_c h631 (hX _ _ _ _ _)))) (Ku_no _)) (Ku_c h630 (hX _ _ _ _ _))) (Ku_c h630 (hX _ _ _ _ _))))) (Ku_no _)
  | 9 => exact Ku_ite (Ku_c rfl (hX _ _ _ _ _)) (Ku_so rfl)
  | 10 => exact Ku_ob (Ku_c rfl (ku_sweep _ _ _ _)) (fun _ h632 => Ku_ite (Ku_c h632 (hX _ _ _ _ _)) (Ku_c h632 (hX _ _ _ _ _)))
  | 11 => exact Ku_c rfl (hX _ _ _ _ _)
  | 12 => exact Ku_c rfl (hX _ _ _ _ _)
  | 13 => exact Ku_ite (Ku_ite (Ku_ite (Ku_c rfl (hX _ _ _ _ _)) (Ku_ite (Ku_c rfl (hX _ _ _ _ _)) (Ku_ite (Ku_c rfl (hX _ _ _ _ _)) (Ku_c rfl (hX _ _ _ _ _))))) (Ku_no _)) (Ku_no _)
  | 14 => exact Ku_ite (Ku_ob (Ku_c rfl (ku_slice _ _ _ _)) (fun _ h633 => Ku_c h633 (hX _ _ _ _ _))) (Ku_no _)
  | 15 => exact Ku_ob (Ku_c rfl (ku_partAt _ _ _ _)) (fun _ h634 => Ku_c h634 (hX _ _ _ _ _))
  | 16 => exact Ku_ob (Ku_c rfl (ku_image _ _ _ _)) (fun _ h635 => Ku_c h635 (hX _ _ _ _ _))
  | 17 => exact Ku_ite (Ku_ob (Ku_c rfl (ku_operate _ _ _ _)) (fun _ h636 => Ku_c h636 (hX _ _ _ _ _))) (Ku_no _)
  | 18 => exact Ku_ob (Ku_c rfl (ku_answer _ _ _ _)) (fun _ h637 => Ku_ob (Ku_c h637 (ku_push _ _ _ _)) (fun _ h638 => Ku_so h638))
  | b + 19 => exact Ku_no _
theorem ku_s_holds {X : Nat → Nat → Nat → (Nat → Int32) → MS → Option (Int32 × MS)} (hX : ∀ e m b L (σ : MS), Ku (X e m b L σ) (ku σ)) (k d b : Nat) (L : Nat → Int32) (σ : MS) : Ku (s_holds X k d b L σ) (ku σ) := by
  match b with
  | 0 => exact Ku_od (fun _ => Ku_ob (Ku_c rfl (hX _ _ _ _ _)) (fun _ h639 => Ku_ite (Ku_ob (Ku_c h639 (ku_isTrue _ _ _ _)) (fun _ h640 => Ku_ite (Ku_c h640 (hX _ _ _ _ _)) (Ku_c h640 (hX _ _ _ _ _)))) (Ku_c h639 (hX _ _ _ _ _))))
  | 1 => exact Ku_c rfl (hX _ _ _ _ _)
  | 2 => exact Ku_ite (Ku_so rfl) (Ku_no _)
  | b + 3 => exact Ku_no _
theorem ku_s_openIter {X : Nat → Nat → Nat → (Nat → Int32) → MS → Option (Int32 × MS)} (hX : ∀ e m b L (σ : MS), Ku (X e m b L σ) (ku σ)) (k d b : Nat) (L : Nat → Int32) (σ : MS) : Ku (s_openIter X k d b L σ) (ku σ) := by
  match b with
  | 0 => exact Ku_ite (Ku_od (fun _ => Ku_ob (Ku_c rfl (hX _ _ _ _ _)) (fun _ h641 => Ku_ite (Ku_c h641 (hX _ _ _ _ _)) (Ku_so h641)))) (Ku_no _)
  | 1 => exact Ku_ob (Ku_c rfl (ku_pop _ _ _ _)) (fun _ h642 => Ku_ob (Ku_c h642 (ku_isRow _ _ _ _)) (fun _ h643 => Ku_ite (Ku_ob (Ku_c h643 (ku_fail _ _ _ _)) (fun _ h644 => Ku_so h644)) (Ku_c h643 (hX _ _ _ _ _))))
  | 2 => exact Ku_ite (Ku_c rfl (hX _ _ _ _ _)) (Ku_no _)
  | 3 => exact Ku_ite (Ku_c rfl (hX _ _ _ _ _)) (Ku_no _)
  | 4 => exact Ku_so rfl
  | b + 5 => exact Ku_no _
theorem ku_s_quantify {X : Nat → Nat → Nat → (Nat → Int32) → MS → Option (Int32 × MS)} (hX : ∀ e m b L (σ : MS), Ku (X e m b L σ) (ku σ)) (k d b : Nat) (L : Nat → Int32) (σ : MS) : Ku (s_quantify X k d b L σ) (ku σ) := by
  match b with
  | 0 => exact Ku_ite (Ku_ite (Ku_c rfl (hX _ _ _ _ _)) (Ku_c rfl (hX _ _ _ _ _))) (Ku_no _)
  | 1 => exact Ku_c rfl (hX _ _ _ _ _)
  | 2 => exact Ku_ite (Ku_od (fun _ => Ku_ob (Ku_c rfl (hX _ _ _ _ _)) (fun _ h645 => Ku_c h645 (hX _ _ _ _ _)))) (Ku_no _)
  | 3 => exact Ku_ite (Ku_c rfl (hX _ _ _ _ _)) (Ku_ite (Ku_ite (Ku_od (fun _ => Ku_ob (Ku_c rfl (hX _ _ _ _ _)) (fun _ h646 => Ku_ite (Ku_ite (Ku_c h646 (hX _ _ _ _ _)) (Ku_c h646 (hX _ _ _ _ _))) (Ku_c h646 (hX _ _ _ _ _))))) (Ku_no _)) (Ku_c rfl (hX _ _ _ _ _)))
  | 4 => exact Ku_c rfl (hX _ _ _ _ _)
  | 5 => exact Ku_ite (Ku_ite (Ku_ite (Ku_od (fun _ => Ku_ob (Ku_c rfl (hX _ _ _ _ _)) (fun _ h647 => Ku_ite (Ku_c h647 (hX _ _ _ _ _)) (Ku_c h647 (hX _ _ _ _ _))))) (Ku_no _)) (Ku_c rfl (hX _ _ _ _ _))) (Ku_c rfl (hX _ _ _ _ _))
  | 6 => exact Ku_c rfl (hX _ _ _ _ _)
  | 7 => exact Ku_c rfl (hX _ _ _ _ _)
  | 8 => exact Ku_c rfl (hX _ _ _ _ _)
  | 9 => exact Ku_ite (Ku_ob (Ku_c rfl (ku_clear _ _ _ _)) (fun _ h648 => Ku_ite (Ku_ite (Ku_c h648 (hX _ _ _ _ _)) (Ku_c h648 (hX _ _ _ _ _))) (Ku_c h648 (hX _ _ _ _ _)))) (Ku_no _)
  | 10 => exact Ku_c rfl (hX _ _ _ _ _)
  | 11 => exact Ku_ob (Ku_c rfl (ku_truth _ _ _ _)) (fun _ h649 => Ku_ob (Ku_c h649 (ku_answer _ _ _ _)) (fun _ h650 => Ku_ob (Ku_c h650 (ku_push _ _ _ _)) (fun _ h651 => Ku_c h651 (hX _ _ _ _ _))))
  | 12 => exact Ku_so rfl
  | b + 13 => exact Ku_no _
theorem ku_s_setBrackets {X : Nat → Nat → Nat → (Nat → Int32) → MS → Option (Int32 × MS)} (hX : ∀ e m b L (σ : MS), Ku (X e m b L σ) (ku σ)) (k d b : Nat) (L : Nat → Int32) (σ : MS) : Ku (s_setBrackets X k d b L σ) (ku σ) := by
  match b with
  | 0 => exact Ku_ite (Ku_c rfl (hX _ _ _ _ _)) (Ku_no _)
  | 1 => exact Ku_ite (Ku_c rfl (hX _ _ _ _ _)) (Ku_ite (Ku_od (fun _ => Ku_ob (Ku_c rfl (hX _ _ _ _ _)) (fun _ h652 => Ku_ite (Ku_ite (Ku_ite (Ku_c h652 (hX _ _ _ _ _)) (Ku_c h652 (hX _ _ _ _ _))) (Ku_no _)) (Ku_c h652 (hX _ _ _ _ _))))) (Ku_c rfl (hX _ _ _ _ _)))
  | 2 => exact Ku_ite (Ku_c rfl (hX _ _ _ _ _)) (Ku_c rfl (hX _ _ _ _ _))
  | 3 => exact Ku_c rfl (hX _ _ _ _ _)
  | 4 => exact Ku_c rfl (hX _ _ _ _ _)
  | 5 => exact Ku_ite (Ku_ite (Ku_ite (Ku_c rfl (hX _ _ _ _ _)) (Ku_c rfl (hX _ _ _ _ _))) (Ku_c rfl (hX _ _ _ _ _))) (Ku_c rfl (hX _ _ _ _ _))
  | 6 => exact Ku_c rfl (hX _ _ _ _ _)
  | 7 => exact Ku_ite (Ku_ob (Ku_c rfl (ku_distinct _ _ _ _)) (fun _ h653 => Ku_c h653 (hX _ _ _ _ _))) (Ku_c rfl (hX _ _ _ _ _))
  | 8 => exact Ku_ite (Ku_c rfl (hX _ _ _ _ _)) (Ku_ite (Ku_ob (Ku_c rfl (ku_size _ _ _ _)) (fun _ h654 => Ku_c h654 (hX _ _ _ _ _))) (Ku_no _))
  | 9 => exact Ku_ite (Ku_c rfl (hX _ _ _ _ _)) (Ku_c rfl (hX _ _ _ _ _))
  | 10 => exact Ku_c rfl (hX _ _ _ _ _)
  | 11 => exact Ku_ite (Ku_c rfl (hX _ _ _ _ _)) (Ku_c rfl (hX _ _ _ _ _))
  | 12 => exact Ku_c rfl (hX _ _ _ _ _)
  | 13 => exact Ku_c rfl (hX _ _ _ _ _)
  | 14 => exact Ku_ite (Ku_c rfl (hX _ _ _ _ _)) (Ku_no _)
  | 15 => exact Ku_ite (Ku_ite (Ku_c rfl (hX _ _ _ _ _)) (Ku_ob (Ku_c rfl (ku_fail _ _ _ _)) (fun _ h655 => Ku_c h655 (hX _ _ _ _ _)))) (Ku_c rfl (hX _ _ _ _ _))
  | 16 => exact Ku_ite (Ku_ite (Ku_c rfl (hX _ _ _ _ _)) (Ku_ob (Ku_c rfl (ku_fail _ _ _ _)) (fun _ h656 => Ku_c h656 (hX _ _ _ _ _)))) (Ku_c rfl (hX _ _ _ _ _))
  | 17 => exact Ku_ite (Ku_ob (Ku_c rfl (ku_sweep _ _ _ _)) (fun _ h657 => Ku_ob (Ku_c h657 (ku_setOf _ _ _ _)) (fun _ h658 => Ku_ob (Ku_c h658 (ku_answer _ _ _ _)) (fun _ h659 => Ku_ob (Ku_c h659 (ku_push _ _ _ _)) (fun _ h660 => Ku_c h660 (hX _ _ _ _ _)))))) (Ku_c rfl (hX _ _ _ _ _))
  | 18 => exact Ku_so rfl
  | b + 19 => exact Ku_no _
theorem ku_s_tupleBrackets {X : Nat → Nat → Nat → (Nat → Int32) → MS → Option (Int32 × MS)} (hX : ∀ e m b L (σ : MS), Ku (X e m b L σ) (ku σ)) (k d b : Nat) (L : Nat → Int32) (σ : MS) : Ku (s_tupleBrackets X k d b L σ) (ku σ) := by
  match b with
  | 0 => exact Ku_ite (Ku_c rfl (hX _ _ _ _ _)) (Ku_no _)
  | 1 => exact Ku_ite (Ku_c rfl (hX _ _ _ _ _)) (Ku_ite (Ku_od (fun _ => Ku_ob (Ku_c rfl (hX _ _ _ _ _)) (fun _ h661 => Ku_ite (Ku_ob (Ku_c h661 (ku_pop _ _ _ _)) (fun _ h662 => Ku_c h662 (hX _ _ _ _ _))) (Ku_c h661 (hX _ _ _ _ _))))) (Ku_c rfl (hX _ _ _ _ _)))
  | 2 => exact Ku_c rfl (hX _ _ _ _ _)
  | 3 => exact Ku_ite (Ku_c rfl (hX _ _ _ _ _)) (Ku_c rfl (hX _ _ _ _ _))
  | 4 => exact Ku_ite (Ku_c rfl (hX _ _ _ _ _)) (Ku_ob (Ku_c rfl (ku_size _ _ _ _)) (fun _ h663 => Ku_c h663 (hX _ _ _ _ _)))
  | 5 => exact Ku_ite (Ku_c rfl (hX _ _ _ _ _)) (Ku_ite (Ku_c rfl (hX _ _ _ _ _)) (Ku_ob (Ku_c rfl (ku_push _ _ _ _)) (fun _ h664 => Ku_c h664 (hX _ _ _ _ _))))
  | 6 => exact Ku_ob (Ku_c rfl (ku_push _ _ _ _)) (fun _ h665 => Ku_c h665 (hX _ _ _ _ _))
  | 7 => exact Ku_ite (Ku_c rfl (hX _ _ _ _ _)) (Ku_c rfl (hX _ _ _ _ _))
  | 8 => exact Ku_c rfl (hX _ _ _ _ _)
  | 9 => exact Ku_c rfl (hX _ _ _ _ _)
  | 10 => exact Ku_ite (Ku_c rfl (hX _ _ _ _ _)) (Ku_no _)
  | 11 => exact Ku_ite (Ku_ite (Ku_c rfl (hX _ _ _ _ _)) (Ku_ob (Ku_c rfl (ku_fail _ _ _ _)) (fun _ h666 => Ku_c h666 (hX _ _ _ _ _)))) (Ku_c rfl (hX _ _ _ _ _))
  | 12 => exact Ku_ite (Ku_ob (Ku_c rfl (ku_sweep _ _ _ _)) (fun _ h667 => Ku_ob (Ku_c h667 (ku_tupleOf _ _ _ _)) (fun _ h668 => Ku_ob (Ku_c h668 (ku_answer _ _ _ _)) (fun _ h669 => Ku_ob (Ku_c h669 (ku_push _ _ _ _)) (fun _ h670 => Ku_c h670 (hX _ _ _ _ _)))))) (Ku_c rfl (hX _ _ _ _ _))
  | 13 => exact Ku_so rfl
  | b + 14 => exact Ku_no _
theorem ku_GV : ∀ (k d m b : Nat) (L : Nat → Int32) (σ : MS), Ku (x_GV k d m b L σ) (ku σ) := by
  intro k
  induction k with
  | zero => intro d m b L σ; exact Ku_no _
  | succ k ih =>
    intro d m b L σ
    match m with
    | 0 => exact ku_s_begins ih k d b L σ
    | 1 => exact ku_s_bounds ih k d b L σ
    | 2 => exact ku_s_callFunc ih k d b L σ
    | 3 => exact ku_s_choose ih k d b L σ
    | 4 => exact ku_s_eval ih k d b L σ
    | 5 => exact ku_s_former ih k d b L σ
    | 6 => exact ku_s_goOn ih k d b L σ
    | 7 => exact ku_s_goesOn ih k d b L σ
    | 8 => exact ku_s_holds ih k d b L σ
    | 9 => exact ku_s_openIter ih k d b L σ
    | 10 => exact ku_s_quantify ih k d b L σ
    | 11 => exact ku_s_setBrackets ih k d b L σ
    | 12 => exact ku_s_tupleBrackets ih k d b L σ
    | m + 13 => exact Ku_no _
theorem ku_eval (k b : Nat) (L : Nat → Int32) (σ : MS) : Ku (x_eval k b L σ) (ku σ) := ku_GV k 1300 4 b L σ
theorem ku_forget : ∀ (k b : Nat) (L : Nat → Int32) (σ : MS), Ku (x_forget k b L σ) (ku σ) := by
  intro k
  induction k with
  | zero => intro b L σ; exact Ku_no _
  | succ k ih =>
    intro b L σ
    match b with
    | 0 =>
      refine Ku_eq (by rw [x_forget]) ?_
      exact Ku_c rfl (ih _ _ _)
    | 1 =>
      refine Ku_eq (by rw [x_forget]) ?_
      exact Ku_ite (Ku_c rfl (ih _ _ _)) (Ku_ite (Ku_c rfl (ih _ _ _)) (Ku_no _))
    | 2 =>
      refine Ku_eq (by rw [x_forget]) ?_
      exact Ku_c rfl (ih _ _ _)
    | 3 =>
      refine Ku_eq (by rw [x_forget]) ?_
      exact Ku_c rfl (ih _ _ _)
    | 4 =>
      refine Ku_eq (by rw [x_forget]) ?_
      exact Ku_ite (Ku_c rfl (ih _ _ _)) (Ku_ite (Ku_ite (Ku_c rfl (ih _ _ _)) (Ku_ite (Ku_c rfl (ih _ _ _)) (Ku_no _))) (Ku_no _))
    | 5 =>
      refine Ku_eq (by rw [x_forget]) ?_
      exact Ku_c rfl (ih _ _ _)
    | 6 =>
      refine Ku_eq (by rw [x_forget]) ?_
      exact Ku_ite (Ku_c rfl (ih _ _ _)) (Ku_no _)
    | 7 =>
      refine Ku_eq (by rw [x_forget]) ?_
      exact Ku_c rfl (ih _ _ _)
    | 8 =>
      refine Ku_eq (by rw [x_forget]) ?_
      exact Ku_c rfl (ih _ _ _)
    | 9 =>
      refine Ku_eq (by rw [x_forget]) ?_
      exact Ku_ite (Ku_ite (Ku_c rfl (ih _ _ _)) (Ku_ite (Ku_c rfl (ih _ _ _)) (Ku_no _))) (Ku_no _)
    | 10 =>
      refine Ku_eq (by rw [x_forget]) ?_
      exact Ku_ite (Ku_c rfl (ih _ _ _)) (Ku_ite (Ku_ite (Ku_c rfl (ih _ _ _)) (Ku_ite (Ku_c rfl (ih _ _ _)) (Ku_no _))) (Ku_no _))
    | 11 =>
      refine Ku_eq (by rw [x_forget]) ?_
      exact Ku_c rfl (ih _ _ _)
    | 12 =>
      refine Ku_eq (by rw [x_forget]) ?_
      exact Ku_ite (Ku_c rfl (ih _ _ _)) (Ku_no _)
    | 13 =>
      refine Ku_eq (by rw [x_forget]) ?_
      exact Ku_c rfl (ih _ _ _)
    | 14 =>
      refine Ku_eq (by rw [x_forget]) ?_
      exact Ku_c rfl (ih _ _ _)
    | 15 =>
      refine Ku_eq (by rw [x_forget]) ?_
      exact Ku_so rfl
    | b + 16 =>
      refine Ku_eq (by rw [x_forget]) (Ku_no _)
theorem ku_workAlone : ∀ (k b : Nat) (L : Nat → Int32) (σ : MS), Ku (x_workAlone k b L σ) (ku σ) := by
  intro k
  induction k with
  | zero => intro b L σ; exact Ku_no _
  | succ k ih =>
    intro b L σ
    match b with
    | 0 =>
      refine Ku_eq (by rw [x_workAlone]) ?_
      exact Ku_c rfl (ih _ _ _)
    | 1 =>
      refine Ku_eq (by rw [x_workAlone]) ?_
      exact Ku_c rfl (ih _ _ _)
    | 2 =>
      refine Ku_eq (by rw [x_workAlone]) ?_
      exact Ku_c rfl (ih _ _ _)
    | 3 =>
      refine Ku_eq (by rw [x_workAlone]) ?_
      exact Ku_c rfl (ih _ _ _)
    | 4 =>
      refine Ku_eq (by rw [x_workAlone]) ?_
      exact Ku_c rfl (ih _ _ _)
    | 5 =>
      refine Ku_eq (by rw [x_workAlone]) ?_
      exact Ku_c rfl (ih _ _ _)
    | 6 =>
      refine Ku_eq (by rw [x_workAlone]) ?_
      exact Ku_c rfl (ih _ _ _)
    | 7 =>
      refine Ku_eq (by rw [x_workAlone]) ?_
      exact Ku_c rfl (ih _ _ _)
    | 8 =>
      refine Ku_eq (by rw [x_workAlone]) ?_
      exact Ku_ob (Ku_c rfl (ku_sweep _ _ _ _)) (fun _ h671 => Ku_ob (Ku_c h671 (ku_eval _ _ _ _)) (fun _ h672 => Ku_c h672 (ih _ _ _)))
    | 9 =>
      refine Ku_eq (by rw [x_workAlone]) ?_
      exact Ku_ite (Ku_c rfl (ih _ _ _)) (Ku_ob (Ku_c rfl (ku_forget _ _ _ _)) (fun _ h673 => Ku_c h673 (ih _ _ _)))
    | 10 =>
      refine Ku_eq (by rw [x_workAlone]) ?_
      exact Ku_so rfl
    | b + 11 =>
      refine Ku_eq (by rw [x_workAlone]) (Ku_no _)
theorem ku_load__56 : ∀ (k b : Nat) (L : Nat → Int32) (σ : MS), Ku (x_load__56 k b L σ) (ku σ) := by
  intro k
  induction k with
  | zero => intro b L σ; exact Ku_no _
  | succ k ih =>
    intro b L σ
    match b with
    | 0 =>
      refine Ku_eq (by rw [x_load__56]) ?_
      exact Ku_c rfl (ih _ _ _)
    | 1 =>
      refine Ku_eq (by rw [x_load__56]) ?_
      exact Ku_ite (Ku_c rfl (ih _ _ _)) (Ku_ite (Ku_ite (Ku_c rfl (ih _ _ _)) (Ku_no _)) (Ku_no _))
    | 2 =>
      refine Ku_eq (by rw [x_load__56]) ?_
      exact Ku_c rfl (ih _ _ _)
    | 3 =>
      refine Ku_eq (by rw [x_load__56]) ?_
      exact Ku_so rfl
    | b + 4 =>
      refine Ku_eq (by rw [x_load__56]) (Ku_no _)
theorem ku_round : ∀ (k b : Nat) (L : Nat → Int32) (σ : MS), Ku (x_round k b L σ) (ku σ) := by
  intro k
  induction k with
  | zero => intro b L σ; exact Ku_no _
  | succ k ih =>
    intro b L σ
    match b with
    | 0 =>
      refine Ku_eq (by rw [x_round]) ?_
      exact Ku_ite (Ku_c rfl (ih _ _ _)) (Ku_c rfl (ih _ _ _))
    | 1 =>
      refine Ku_eq (by rw [x_round]) ?_
      exact Ku_c rfl (ih _ _ _)
    | 2 =>
      refine Ku_eq (by rw [x_round]) ?_
      exact Ku_ob (Ku_c rfl (ku_good _ _ _ _)) (fun _ h674 => Ku_ite (Ku_so h674) (Ku_c h674 (ih _ _ _)))
    | 3 =>
      refine Ku_eq (by rw [x_round]) ?_
      exact Ku_c rfl (ih _ _ _)
    | 4 =>
      refine Ku_eq (by rw [x_round]) ?_
      exact Ku_ite (Ku_c rfl (ih _ _ _)) (Ku_ite (Ku_ite (Ku_c rfl (ih _ _ _)) (Ku_no _)) (Ku_no _))
    | 5 =>
      refine Ku_eq (by rw [x_round]) ?_
      exact Ku_c rfl (ih _ _ _)
    | 6 =>
      refine Ku_eq (by rw [x_round]) ?_
      exact Ku_c rfl (ih _ _ _)
    | 7 =>
      refine Ku_eq (by rw [x_round]) ?_
      exact Ku_ite (Ku_c rfl (ih _ _ _)) (Ku_ite (Ku_ob (Ku_c rfl (ku_load__54 _ _ _ _)) (fun _ h675 => Ku_ob (Ku_c h675 (ku_readExp _ _ _ _)) (fun _ h676 => Ku_ob (Ku_c h676 (ku_workAlone _ _ _ _)) (fun _ h677 => Ku_c h677 (ih _ _ _))))) (Ku_no _))
    | 8 =>
      refine Ku_eq (by rw [x_round]) ?_
      exact Ku_c rfl (ih _ _ _)
    | 9 =>
      refine Ku_eq (by rw [x_round]) ?_
      exact Ku_ite (Ku_c rfl (ih _ _ _)) (Ku_c rfl (ih _ _ _))
    | 10 =>
      refine Ku_eq (by rw [x_round]) ?_
      exact Ku_ob (Ku_c rfl (ku_pop _ _ _ _)) (fun _ h678 => Ku_c h678 (ih _ _ _))
    | 11 =>
      refine Ku_eq (by rw [x_round]) ?_
      exact Ku_c rfl (ih _ _ _)
    | 12 =>
      refine Ku_eq (by rw [x_round]) ?_
      exact Ku_ite (Ku_c rfl (ih _ _ _)) (Ku_no _)
    | 13 =>
      refine Ku_eq (by rw [x_round]) ?_
      exact Ku_ite (Ku_ob (Ku_c rfl (ku_compare _ _ _ _)) (fun _ h679 => Ku_ite (Ku_c h679 (ih _ _ _)) (Ku_c h679 (ih _ _ _)))) (Ku_no _)
    | 14 =>
      refine Ku_eq (by rw [x_round]) ?_
      exact Ku_c rfl (ih _ _ _)
    | 15 =>
      refine Ku_eq (by rw [x_round]) ?_
      exact Ku_ob (Ku_c rfl (ku_kind _ _ _ _)) (fun _ h680 => Ku_ite (Ku_ob (Ku_c h680 (ku_kind _ _ _ _)) (fun _ h681 => Ku_ite (Ku_c h681 (ih _ _ _)) (Ku_c h681 (ih _ _ _)))) (Ku_c h680 (ih _ _ _)))
    | 16 =>
      refine Ku_eq (by rw [x_round]) ?_
      exact Ku_c rfl (ih _ _ _)
    | 17 =>
      refine Ku_eq (by rw [x_round]) ?_
      exact Ku_c rfl (ih _ _ _)
    | 18 =>
      refine Ku_eq (by rw [x_round]) ?_
      exact Ku_ite (Ku_ob (Ku_c rfl (ku_setOf _ _ _ _)) (fun _ h682 => Ku_c h682 (ih _ _ _))) (Ku_c rfl (ih _ _ _))
    | 19 =>
      refine Ku_eq (by rw [x_round]) ?_
      exact Ku_ite (Ku_c rfl (ih _ _ _)) (Ku_ob (Ku_c rfl (ku_sift _ _ _ _)) (fun _ h683 => Ku_c h683 (ih _ _ _)))
    | 20 =>
      refine Ku_eq (by rw [x_round]) ?_
      exact Ku_c rfl (ih _ _ _)
    | 21 =>
      refine Ku_eq (by rw [x_round]) ?_
      exact Ku_ite (Ku_ob (Ku_c rfl (ku_setOf _ _ _ _)) (fun _ h684 => Ku_c h684 (ih _ _ _))) (Ku_c rfl (ih _ _ _))
    | 22 =>
      refine Ku_eq (by rw [x_round]) ?_
      exact Ku_ite (Ku_c rfl (ih _ _ _)) (Ku_ob (Ku_c rfl (ku_sift _ _ _ _)) (fun _ h685 => Ku_c h685 (ih _ _ _)))
    | 23 =>
      refine Ku_eq (by rw [x_round]) ?_
      exact Ku_c rfl (ih _ _ _)
    | 24 =>
      refine Ku_eq (by rw [x_round]) ?_
      exact Ku_ite (Ku_c rfl (ih _ _ _)) (Ku_no _)
    | 25 =>
      refine Ku_eq (by rw [x_round]) ?_
      exact Ku_ite (Ku_c rfl (ih _ _ _)) (Ku_no _)
    | 26 =>
      refine Ku_eq (by rw [x_round]) ?_
      exact Ku_ite (Ku_c rfl (ih _ _ _)) (Ku_no _)
    | 27 =>
      refine Ku_eq (by rw [x_round]) ?_
      exact Ku_ite (Ku_c rfl (ih _ _ _)) (Ku_c rfl (ih _ _ _))
    | 28 =>
      refine Ku_eq (by rw [x_round]) ?_
      exact Ku_c rfl (ih _ _ _)
    | 29 =>
      refine Ku_eq (by rw [x_round]) ?_
      exact Ku_c rfl (ih _ _ _)
    | 30 =>
      refine Ku_eq (by rw [x_round]) ?_
      exact Ku_ob (Ku_c rfl (ku_load__56 _ _ _ _)) (fun _ h686 => Ku_c h686 (ih _ _ _))
    | 31 =>
      refine Ku_eq (by rw [x_round]) ?_
      exact Ku_so rfl
    | b + 32 =>
      refine Ku_eq (by rw [x_round]) (Ku_no _)
