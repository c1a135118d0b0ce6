/-! What a call never writes (reference; made by ks.py): the fault's number (11), how many statements (44), procs (31), variables (21 at 0), the program's text. -/
abbrev KsT := Int32 × Int32 × Int32 × Int32 × Int32 × Int32 × (Nat → Int32)
def ks (w : KsT) (σ : MS) : Prop := σ.1 11 = w.1 ∧ σ.1 44 = w.2.1 ∧ σ.1 31 = w.2.2.1 ∧ σ.1 111 = w.2.2.2.1 ∧ σ.1 115 = w.2.2.2.2.1 ∧ σ.2.2 21 0 = w.2.2.2.2.2.1 ∧ σ.2.2 53 = w.2.2.2.2.2.2
def Ks (w : KsT) (x : Option (Int32 × MS)) : Prop := ∀ r, x = some r → ks w r.2
section KSS
variable {w : KsT}
theorem Ks_no : Ks w none := fun _ h => by cases h
theorem Ks_so {r : Int32 × MS} (h : ks w r.2) : Ks w (some r) := fun _ e => by cases e; exact h
theorem Ks_eq {a a' : Option (Int32 × MS)} (h1 : a = a') (h : Ks w a') : Ks w a := by rw [h1]; exact h
theorem Ks_ob {x : Option (Int32 × MS)} {f : Int32 × MS → Option (Int32 × MS)} (h1 : Ks w x) (h2 : ∀ r, ks w r.2 → Ks w (f r)) : Ks w (ob x f) := by
  intro r hr
  cases x with
  | none => cases hr
  | some s => exact h2 s (h1 s rfl) r hr
theorem Ks_ite {p : Prop} {_ : Decidable p} {a b : Option (Int32 × MS)} (h1 : Ks w a) (h2 : Ks w b) : Ks w (if p then a else b) := by
  by_cases h : p
  · rw [if_pos h]; exact h1
  · rw [if_neg h]; exact h2
theorem Ks_od {d : Nat} {f : Nat → Option (Int32 × MS)} (h : ∀ e, Ks w (f e)) : Ks w (od d f) := by
  cases d with
  | zero => exact Ks_no
  | succ e => exact h e
theorem ks_copied : ∀ (k b : Nat) (L : Nat → Int32) (σ : MS), ks w σ → Ks w (x_copied k b L σ) := by
  intro k
  induction k with
  | zero => intro b L σ _; exact Ks_no
  | succ k ih =>
    intro b L σ h
    match b with
    | 0 =>
      refine Ks_eq (by rw [x_copied]) ?_
      exact Ks_ite (ih _ _ _ h) (Ks_so h)
    | 1 =>
      refine Ks_eq (by rw [x_copied]) ?_
      exact Ks_ite (Ks_ite (Ks_ite (Ks_so h) (Ks_no)) (ih _ _ _ h)) (Ks_no)
    | 2 =>
      refine Ks_eq (by rw [x_copied]) ?_
      exact Ks_ite (ih _ _ _ h) (Ks_no)
    | 3 =>
      refine Ks_eq (by rw [x_copied]) ?_
      exact ih _ _ _ h
    | 4 =>
      refine Ks_eq (by rw [x_copied]) ?_
      exact Ks_ite (ih _ _ _ h) (Ks_ite (Ks_ite (ih _ _ _ h) (Ks_no)) (Ks_no))
    | 5 =>
      refine Ks_eq (by rw [x_copied]) ?_
      exact ih _ _ _ h
    | 6 =>
      refine Ks_eq (by rw [x_copied]) ?_
      exact Ks_ite (ih _ _ _ h) (Ks_no)
    | 7 =>
      refine Ks_eq (by rw [x_copied]) ?_
      exact Ks_ite (ih _ _ _ h) (Ks_no)
    | 8 =>
      refine Ks_eq (by rw [x_copied]) ?_
      exact Ks_so h
    | b + 9 =>
      exact Ks_eq (by rw [x_copied]) Ks_no
theorem ks_copyRow__29 : ∀ (k b : Nat) (L : Nat → Int32) (σ : MS), ks w σ → Ks w (x_copyRow__29 k b L σ) := by
  intro k
  induction k with
  | zero => intro b L σ _; exact Ks_no
  | succ k ih =>
    intro b L σ h
    match b with
    | 0 =>
      refine Ks_eq (by rw [x_copyRow__29]) ?_
      exact ih _ _ _ h
    | 1 =>
      refine Ks_eq (by rw [x_copyRow__29]) ?_
      exact Ks_ite (ih _ _ _ h) (Ks_ite (Ks_ob (ks_copied _ _ _ _ h) (fun _ h1 => Ks_ite (ih _ _ _ h1) (Ks_no))) (Ks_no))
    | 2 =>
      refine Ks_eq (by rw [x_copyRow__29]) ?_
      exact ih _ _ _ h
    | 3 =>
      refine Ks_eq (by rw [x_copyRow__29]) ?_
      exact Ks_so h
    | b + 4 =>
      exact Ks_eq (by rw [x_copyRow__29]) Ks_no
theorem ks_copyRow__30 : ∀ (k b : Nat) (L : Nat → Int32) (σ : MS), ks w σ → Ks w (x_copyRow__30 k b L σ) := by
  intro k
  induction k with
  | zero => intro b L σ _; exact Ks_no
  | succ k ih =>
    intro b L σ h
    match b with
    | 0 =>
      refine Ks_eq (by rw [x_copyRow__30]) ?_
      exact ih _ _ _ h
    | 1 =>
      refine Ks_eq (by rw [x_copyRow__30]) ?_
      exact Ks_ite (ih _ _ _ h) (Ks_ite (Ks_ob (ks_copied _ _ _ _ h) (fun _ h2 => Ks_ite (ih _ _ _ h2) (Ks_no))) (Ks_no))
    | 2 =>
      refine Ks_eq (by rw [x_copyRow__30]) ?_
      exact ih _ _ _ h
    | 3 =>
      refine Ks_eq (by rw [x_copyRow__30]) ?_
      exact Ks_so h
    | b + 4 =>
      exact Ks_eq (by rw [x_copyRow__30]) Ks_no
theorem ks_copyState__30 : ∀ (k b : Nat) (L : Nat → Int32) (σ : MS), ks w σ → Ks w (x_copyState__30 k b L σ) := by
  intro k
  induction k with
  | zero => intro b L σ _; exact Ks_no
  | succ k ih =>
    intro b L σ h
    match b with
    | 0 =>
      refine Ks_eq (by rw [x_copyState__30]) ?_
      exact Ks_ob (ks_copyRow__30 _ _ _ _ h) (fun _ h3 => Ks_ite (Ks_ob (ks_copyRow__30 _ _ _ _ h3) (fun _ h4 => Ks_ite (Ks_ob (ks_copyRow__30 _ _ _ _ h4) (fun _ h5 => Ks_so h5)) (Ks_no))) (Ks_no))
    | b + 1 =>
      exact Ks_eq (by rw [x_copyState__30]) Ks_no
theorem ks_copyRow__31 : ∀ (k b : Nat) (L : Nat → Int32) (σ : MS), ks w σ → Ks w (x_copyRow__31 k b L σ) := by
  intro k
  induction k with
  | zero => intro b L σ _; exact Ks_no
  | succ k ih =>
    intro b L σ h
    match b with
    | 0 =>
      refine Ks_eq (by rw [x_copyRow__31]) ?_
      exact ih _ _ _ h
    | 1 =>
      refine Ks_eq (by rw [x_copyRow__31]) ?_
      exact Ks_ite (ih _ _ _ h) (Ks_ite (Ks_ob (ks_copied _ _ _ _ h) (fun _ h6 => Ks_ite (ih _ _ _ h6) (Ks_no))) (Ks_no))
    | 2 =>
      refine Ks_eq (by rw [x_copyRow__31]) ?_
      exact ih _ _ _ h
    | 3 =>
      refine Ks_eq (by rw [x_copyRow__31]) ?_
      exact Ks_so h
    | b + 4 =>
      exact Ks_eq (by rw [x_copyRow__31]) Ks_no
theorem ks_copyState__31 : ∀ (k b : Nat) (L : Nat → Int32) (σ : MS), ks w σ → Ks w (x_copyState__31 k b L σ) := by
  intro k
  induction k with
  | zero => intro b L σ _; exact Ks_no
  | succ k ih =>
    intro b L σ h
    match b with
    | 0 =>
      refine Ks_eq (by rw [x_copyState__31]) ?_
      exact Ks_ob (ks_copyRow__31 _ _ _ _ h) (fun _ h7 => Ks_ite (Ks_ob (ks_copyRow__31 _ _ _ _ h7) (fun _ h8 => Ks_ite (Ks_ob (ks_copyRow__31 _ _ _ _ h8) (fun _ h9 => Ks_so h9)) (Ks_no))) (Ks_no))
    | b + 1 =>
      exact Ks_eq (by rw [x_copyState__31]) Ks_no
theorem ks_copyRow__33 : ∀ (k b : Nat) (L : Nat → Int32) (σ : MS), ks w σ → Ks w (x_copyRow__33 k b L σ) := by
  intro k
  induction k with
  | zero => intro b L σ _; exact Ks_no
  | succ k ih =>
    intro b L σ h
    match b with
    | 0 =>
      refine Ks_eq (by rw [x_copyRow__33]) ?_
      exact ih _ _ _ h
    | 1 =>
      refine Ks_eq (by rw [x_copyRow__33]) ?_
      exact Ks_ite (ih _ _ _ h) (Ks_ite (Ks_ob (ks_copied _ _ _ _ h) (fun _ h10 => Ks_ite (ih _ _ _ h10) (Ks_no))) (Ks_no))
    | 2 =>
      refine Ks_eq (by rw [x_copyRow__33]) ?_
      exact ih _ _ _ h
    | 3 =>
      refine Ks_eq (by rw [x_copyRow__33]) ?_
      exact Ks_so h
    | b + 4 =>
      exact Ks_eq (by rw [x_copyRow__33]) Ks_no
theorem ks_copyRow__34 : ∀ (k b : Nat) (L : Nat → Int32) (σ : MS), ks w σ → Ks w (x_copyRow__34 k b L σ) := by
  intro k
  induction k with
  | zero => intro b L σ _; exact Ks_no
  | succ k ih =>
    intro b L σ h
    match b with
    | 0 =>
      refine Ks_eq (by rw [x_copyRow__34]) ?_
      exact ih _ _ _ h
    | 1 =>
      refine Ks_eq (by rw [x_copyRow__34]) ?_
      exact Ks_ite (ih _ _ _ h) (Ks_ite (Ks_ob (ks_copied _ _ _ _ h) (fun _ h11 => Ks_ite (ih _ _ _ h11) (Ks_no))) (Ks_no))
    | 2 =>
      refine Ks_eq (by rw [x_copyRow__34]) ?_
      exact ih _ _ _ h
    | 3 =>
      refine Ks_eq (by rw [x_copyRow__34]) ?_
      exact Ks_so h
    | b + 4 =>
      exact Ks_eq (by rw [x_copyRow__34]) Ks_no
theorem ks_copyRow__36 : ∀ (k b : Nat) (L : Nat → Int32) (σ : MS), ks w σ → Ks w (x_copyRow__36 k b L σ) := by
  intro k
  induction k with
  | zero => intro b L σ _; exact Ks_no
  | succ k ih =>
    intro b L σ h
    match b with
    | 0 =>
      refine Ks_eq (by rw [x_copyRow__36]) ?_
      exact ih _ _ _ h
    | 1 =>
      refine Ks_eq (by rw [x_copyRow__36]) ?_
      exact Ks_ite (ih _ _ _ h) (Ks_ite (Ks_ob (ks_copied _ _ _ _ h) (fun _ h12 => Ks_ite (ih _ _ _ h12) (Ks_no))) (Ks_no))
    | 2 =>
      refine Ks_eq (by rw [x_copyRow__36]) ?_
      exact ih _ _ _ h
    | 3 =>
      refine Ks_eq (by rw [x_copyRow__36]) ?_
      exact Ks_so h
    | b + 4 =>
      exact Ks_eq (by rw [x_copyRow__36]) Ks_no
theorem ks_copyRow__37 : ∀ (k b : Nat) (L : Nat → Int32) (σ : MS), ks w σ → Ks w (x_copyRow__37 k b L σ) := by
  intro k
  induction k with
  | zero => intro b L σ _; exact Ks_no
  | succ k ih =>
    intro b L σ h
    match b with
    | 0 =>
      refine Ks_eq (by rw [x_copyRow__37]) ?_
      exact ih _ _ _ h
    | 1 =>
      refine Ks_eq (by rw [x_copyRow__37]) ?_
      exact Ks_ite (ih _ _ _ h) (Ks_ite (Ks_ob (ks_copied _ _ _ _ h) (fun _ h13 => Ks_ite (ih _ _ _ h13) (Ks_no))) (Ks_no))
    | 2 =>
      refine Ks_eq (by rw [x_copyRow__37]) ?_
      exact ih _ _ _ h
    | 3 =>
      refine Ks_eq (by rw [x_copyRow__37]) ?_
      exact Ks_so h
    | b + 4 =>
      exact Ks_eq (by rw [x_copyRow__37]) Ks_no
theorem ks_copyRow__38 : ∀ (k b : Nat) (L : Nat → Int32) (σ : MS), ks w σ → Ks w (x_copyRow__38 k b L σ) := by
  intro k
  induction k with
  | zero => intro b L σ _; exact Ks_no
  | succ k ih =>
    intro b L σ h
    match b with
    | 0 =>
      refine Ks_eq (by rw [x_copyRow__38]) ?_
      exact ih _ _ _ h
    | 1 =>
      refine Ks_eq (by rw [x_copyRow__38]) ?_
      exact Ks_ite (ih _ _ _ h) (Ks_ite (Ks_ob (ks_copied _ _ _ _ h) (fun _ h14 => Ks_ite (ih _ _ _ h14) (Ks_no))) (Ks_no))
    | 2 =>
      refine Ks_eq (by rw [x_copyRow__38]) ?_
      exact ih _ _ _ h
    | 3 =>
      refine Ks_eq (by rw [x_copyRow__38]) ?_
      exact Ks_so h
    | b + 4 =>
      exact Ks_eq (by rw [x_copyRow__38]) Ks_no
theorem ks_copyRow__40 : ∀ (k b : Nat) (L : Nat → Int32) (σ : MS), ks w σ → Ks w (x_copyRow__40 k b L σ) := by
  intro k
  induction k with
  | zero => intro b L σ _; exact Ks_no
  | succ k ih =>
    intro b L σ h
    match b with
    | 0 =>
      refine Ks_eq (by rw [x_copyRow__40]) ?_
      exact ih _ _ _ h
    | 1 =>
      refine Ks_eq (by rw [x_copyRow__40]) ?_
      exact Ks_ite (ih _ _ _ h) (Ks_ite (Ks_ob (ks_copied _ _ _ _ h) (fun _ h15 => Ks_ite (ih _ _ _ h15) (Ks_no))) (Ks_no))
    | 2 =>
      refine Ks_eq (by rw [x_copyRow__40]) ?_
      exact ih _ _ _ h
    | 3 =>
      refine Ks_eq (by rw [x_copyRow__40]) ?_
      exact Ks_so h
    | b + 4 =>
      exact Ks_eq (by rw [x_copyRow__40]) Ks_no
theorem ks_copyRow__28 : ∀ (k b : Nat) (L : Nat → Int32) (σ : MS), ks w σ → Ks w (x_copyRow__28 k b L σ) := by
  intro k
  induction k with
  | zero => intro b L σ _; exact Ks_no
  | succ k ih =>
    intro b L σ h
    match b with
    | 0 =>
      refine Ks_eq (by rw [x_copyRow__28]) ?_
      exact ih _ _ _ h
    | 1 =>
      refine Ks_eq (by rw [x_copyRow__28]) ?_
      exact Ks_ite (ih _ _ _ h) (Ks_ite (Ks_ob (ks_copied _ _ _ _ h) (fun _ h16 => Ks_ite (ih _ _ _ h16) (Ks_no))) (Ks_no))
    | 2 =>
      refine Ks_eq (by rw [x_copyRow__28]) ?_
      exact ih _ _ _ h
    | 3 =>
      refine Ks_eq (by rw [x_copyRow__28]) ?_
      exact Ks_so h
    | b + 4 =>
      exact Ks_eq (by rw [x_copyRow__28]) Ks_no
theorem ks_sweep : ∀ (k b : Nat) (L : Nat → Int32) (σ : MS), ks w σ → Ks w (x_sweep k b L σ) := by
  intro k
  induction k with
  | zero => intro b L σ _; exact Ks_no
  | succ k ih =>
    intro b L σ h
    match b with
    | 0 =>
      refine Ks_eq (by rw [x_sweep]) ?_
      exact Ks_ite (ih _ _ _ h) (Ks_so h)
    | 1 =>
      refine Ks_eq (by rw [x_sweep]) ?_
      exact Ks_ite (ih _ _ _ h) (ih _ _ _ h)
    | 2 =>
      refine Ks_eq (by rw [x_sweep]) ?_
      exact ih _ _ _ h
    | 3 =>
      refine Ks_eq (by rw [x_sweep]) ?_
      exact ih _ _ _ h
    | 4 =>
      refine Ks_eq (by rw [x_sweep]) ?_
      exact ih _ _ _ h
    | 5 =>
      refine Ks_eq (by rw [x_sweep]) ?_
      exact Ks_ob (ks_copyRow__29 _ _ _ _ h) (fun _ h17 => Ks_ob (ks_copyState__30 _ _ _ _ h17) (fun _ h18 => ih _ _ _ h18))
    | 6 =>
      refine Ks_eq (by rw [x_sweep]) ?_
      exact Ks_ite (ih _ _ _ h) (Ks_ob (ks_copyState__31 _ _ _ _ h) (fun _ h19 => ih _ _ _ h19))
    | 7 =>
      refine Ks_eq (by rw [x_sweep]) ?_
      exact Ks_ob (ks_copyRow__33 _ _ _ _ h) (fun _ h20 => Ks_ob (ks_copyRow__34 _ _ _ _ h20) (fun _ h21 => Ks_ob (ks_copyRow__36 _ _ _ _ h21) (fun _ h22 => Ks_ob (ks_copyRow__37 _ _ _ _ h22) (fun _ h23 => Ks_ob (ks_copyRow__38 _ _ _ _ h23) (fun _ h24 => Ks_ob (ks_copyRow__40 _ _ _ _ h24) (fun _ h25 => ih _ _ _ h25))))))
    | 8 =>
      refine Ks_eq (by rw [x_sweep]) ?_
      exact Ks_ite (ih _ _ _ h) (Ks_ite (Ks_ite (Ks_ite (ih _ _ _ h) (Ks_ite (ih _ _ _ h) (ih _ _ _ h))) (Ks_no)) (Ks_no))
    | 9 =>
      refine Ks_eq (by rw [x_sweep]) ?_
      exact Ks_ob (ks_copyRow__28 _ _ _ _ h) (fun _ h26 => ih _ _ _ h26)
    | 10 =>
      refine Ks_eq (by rw [x_sweep]) ?_
      exact ih _ _ _ h
    | 11 =>
      refine Ks_eq (by rw [x_sweep]) ?_
      exact Ks_so h
    | b + 12 =>
      exact Ks_eq (by rw [x_sweep]) Ks_no
theorem ks_fail : ∀ (k b : Nat) (L : Nat → Int32) (σ : MS), ks w σ → Ks w (x_fail k b L σ) := by
  intro k
  induction k with
  | zero => intro b L σ _; exact Ks_no
  | succ k ih =>
    intro b L σ h
    match b with
    | 0 =>
      refine Ks_eq (by rw [x_fail]) ?_
      exact Ks_ite (ih _ _ _ h) (ih _ _ _ h)
    | 1 =>
      refine Ks_eq (by rw [x_fail]) ?_
      exact ih _ _ _ h
    | 2 =>
      refine Ks_eq (by rw [x_fail]) ?_
      exact Ks_so h
    | b + 3 =>
      exact Ks_eq (by rw [x_fail]) Ks_no
theorem ks_make : ∀ (k b : Nat) (L : Nat → Int32) (σ : MS), ks w σ → Ks w (x_make k b L σ) := by
  intro k
  induction k with
  | zero => intro b L σ _; exact Ks_no
  | succ k ih =>
    intro b L σ h
    match b with
    | 0 =>
      refine Ks_eq (by rw [x_make]) ?_
      exact Ks_ite (ih _ _ _ h) (Ks_ob (ks_fail _ _ _ _ h) (fun _ h27 => Ks_so h27))
    | 1 =>
      refine Ks_eq (by rw [x_make]) ?_
      exact ih _ _ _ h
    | 2 =>
      refine Ks_eq (by rw [x_make]) ?_
      exact Ks_ite (ih _ _ _ h) (Ks_no)
    | 3 =>
      refine Ks_eq (by rw [x_make]) ?_
      exact Ks_ite (ih _ _ _ h) (Ks_no)
    | 4 =>
      refine Ks_eq (by rw [x_make]) ?_
      exact Ks_ite (ih _ _ _ h) (Ks_no)
    | 5 =>
      refine Ks_eq (by rw [x_make]) ?_
      exact Ks_ite (ih _ _ _ h) (Ks_no)
    | 6 =>
      refine Ks_eq (by rw [x_make]) ?_
      exact Ks_so h
    | b + 7 =>
      exact Ks_eq (by rw [x_make]) Ks_no
theorem ks_wholeOf : ∀ (k b : Nat) (L : Nat → Int32) (σ : MS), ks w σ → Ks w (x_wholeOf k b L σ) := by
  intro k
  induction k with
  | zero => intro b L σ _; exact Ks_no
  | succ k ih =>
    intro b L σ h
    match b with
    | 0 =>
      refine Ks_eq (by rw [x_wholeOf]) ?_
      exact Ks_ite (ih _ _ _ h) (Ks_ite (Ks_ite (ih _ _ _ h) (ih _ _ _ h)) (Ks_no))
    | 1 =>
      refine Ks_eq (by rw [x_wholeOf]) ?_
      exact Ks_ite (ih _ _ _ h) (Ks_ob (ks_fail _ _ _ _ h) (fun _ h28 => Ks_so h28))
    | 2 =>
      refine Ks_eq (by rw [x_wholeOf]) ?_
      exact Ks_ob (ks_make _ _ _ _ h) (fun _ h29 => Ks_ite (ih _ _ _ h29) (Ks_so h29))
    | 3 =>
      refine Ks_eq (by rw [x_wholeOf]) ?_
      exact Ks_ite (ih _ _ _ h) (ih _ _ _ h)
    | 4 =>
      refine Ks_eq (by rw [x_wholeOf]) ?_
      exact ih _ _ _ h
    | 5 =>
      refine Ks_eq (by rw [x_wholeOf]) ?_
      exact Ks_ite (ih _ _ _ h) (Ks_no)
    | 6 =>
      refine Ks_eq (by rw [x_wholeOf]) ?_
      exact ih _ _ _ h
    | 7 =>
      refine Ks_eq (by rw [x_wholeOf]) ?_
      exact Ks_ite (ih _ _ _ h) (Ks_ite (Ks_ite (ih _ _ _ h) (Ks_no)) (Ks_no))
    | 8 =>
      refine Ks_eq (by rw [x_wholeOf]) ?_
      exact ih _ _ _ h
    | 9 =>
      refine Ks_eq (by rw [x_wholeOf]) ?_
      exact Ks_ite (Ks_no) (Ks_ite (ih _ _ _ h) (Ks_no))
    | 10 =>
      refine Ks_eq (by rw [x_wholeOf]) ?_
      exact Ks_so h
    | b + 11 =>
      exact Ks_eq (by rw [x_wholeOf]) Ks_no
theorem ks_literal : ∀ (k b : Nat) (L : Nat → Int32) (σ : MS), ks w σ → Ks w (x_literal k b L σ) := by
  intro k
  induction k with
  | zero => intro b L σ _; exact Ks_no
  | succ k ih =>
    intro b L σ h
    match b with
    | 0 =>
      refine Ks_eq (by rw [x_literal]) ?_
      exact ih _ _ _ h
    | 1 =>
      refine Ks_eq (by rw [x_literal]) ?_
      exact ih _ _ _ h
    | 2 =>
      refine Ks_eq (by rw [x_literal]) ?_
      exact Ks_ite (ih _ _ _ h) (Ks_ite (ih _ _ _ h) (Ks_no))
    | 3 =>
      refine Ks_eq (by rw [x_literal]) ?_
      exact Ks_ite (ih _ _ _ h) (Ks_ite (Ks_ite (ih _ _ _ h) (Ks_no)) (Ks_no))
    | 4 =>
      refine Ks_eq (by rw [x_literal]) ?_
      exact ih _ _ _ h
    | 5 =>
      refine Ks_eq (by rw [x_literal]) ?_
      exact Ks_ite (ih _ _ _ h) (Ks_ite (ih _ _ _ h) (Ks_no))
    | 6 =>
      refine Ks_eq (by rw [x_literal]) ?_
      exact ih _ _ _ h
    | 7 =>
      refine Ks_eq (by rw [x_literal]) ?_
      exact ih _ _ _ h
    | 8 =>
      refine Ks_eq (by rw [x_literal]) ?_
      exact Ks_ob (ks_wholeOf _ _ _ _ h) (fun _ h30 => Ks_so h30)
    | b + 9 =>
      exact Ks_eq (by rw [x_literal]) Ks_no
theorem ks_size : ∀ (k b : Nat) (L : Nat → Int32) (σ : MS), ks w σ → Ks w (x_size k b L σ) := by
  intro k
  induction k with
  | zero => intro b L σ _; exact Ks_no
  | succ k ih =>
    intro b L σ h
    match b with
    | 0 =>
      refine Ks_eq (by rw [x_size]) ?_
      exact Ks_ite (ih _ _ _ h) (ih _ _ _ h)
    | 1 =>
      refine Ks_eq (by rw [x_size]) ?_
      exact Ks_ite (ih _ _ _ h) (Ks_no)
    | 2 =>
      refine Ks_eq (by rw [x_size]) ?_
      exact Ks_so h
    | b + 3 =>
      exact Ks_eq (by rw [x_size]) Ks_no
theorem ks_worked : ∀ (k b : Nat) (L : Nat → Int32) (σ : MS), ks w σ → Ks w (x_worked k b L σ) := by
  intro k
  induction k with
  | zero => intro b L σ _; exact Ks_no
  | succ k ih =>
    intro b L σ h
    match b with
    | 0 =>
      refine Ks_eq (by rw [x_worked]) ?_
      exact ih _ _ _ h
    | 1 =>
      refine Ks_eq (by rw [x_worked]) ?_
      exact Ks_ite (ih _ _ _ h) (Ks_ob (ks_fail _ _ _ _ h) (fun _ h31 => ih _ _ _ h31))
    | 2 =>
      refine Ks_eq (by rw [x_worked]) ?_
      exact Ks_so h
    | b + 3 =>
      exact Ks_eq (by rw [x_worked]) Ks_no
theorem ks_answer : ∀ (k b : Nat) (L : Nat → Int32) (σ : MS), ks w σ → Ks w (x_answer k b L σ) := by
  intro k
  induction k with
  | zero => intro b L σ _; exact Ks_no
  | succ k ih =>
    intro b L σ h
    match b with
    | 0 =>
      refine Ks_eq (by rw [x_answer]) ?_
      exact Ks_ite (Ks_ob (ks_size _ _ _ _ h) (fun _ h32 => Ks_ob (ks_worked _ _ _ _ h32) (fun _ h33 => ih _ _ _ h33))) (ih _ _ _ h)
    | 1 =>
      refine Ks_eq (by rw [x_answer]) ?_
      exact Ks_so h
    | b + 2 =>
      exact Ks_eq (by rw [x_answer]) Ks_no
theorem ks_push : ∀ (k b : Nat) (L : Nat → Int32) (σ : MS), ks w σ → Ks w (x_push k b L σ) := by
  intro k
  induction k with
  | zero => intro b L σ _; exact Ks_no
  | succ k ih =>
    intro b L σ h
    match b with
    | 0 =>
      refine Ks_eq (by rw [x_push]) ?_
      exact Ks_ite (ih _ _ _ h) (Ks_no)
    | 1 =>
      refine Ks_eq (by rw [x_push]) ?_
      exact Ks_so h
    | b + 2 =>
      exact Ks_eq (by rw [x_push]) Ks_no
theorem ks_stringOf__12 : ∀ (k b : Nat) (L : Nat → Int32) (σ : MS), ks w σ → Ks w (x_stringOf__12 k b L σ) := by
  intro k
  induction k with
  | zero => intro b L σ _; exact Ks_no
  | succ k ih =>
    intro b L σ h
    match b with
    | 0 =>
      refine Ks_eq (by rw [x_stringOf__12]) ?_
      exact Ks_ite (Ks_no) (Ks_ite (ih _ _ _ h) (Ks_ob (ks_fail _ _ _ _ h) (fun _ h34 => Ks_so h34)))
    | 1 =>
      refine Ks_eq (by rw [x_stringOf__12]) ?_
      exact Ks_ob (ks_make _ _ _ _ h) (fun _ h35 => ih _ _ _ h35)
    | 2 =>
      refine Ks_eq (by rw [x_stringOf__12]) ?_
      exact Ks_ite (ih _ _ _ h) (Ks_ite (Ks_ite (Ks_ite (ih _ _ _ h) (Ks_no)) (Ks_no)) (ih _ _ _ h))
    | 3 =>
      refine Ks_eq (by rw [x_stringOf__12]) ?_
      exact ih _ _ _ h
    | 4 =>
      refine Ks_eq (by rw [x_stringOf__12]) ?_
      exact Ks_ite (Ks_no) (Ks_ite (ih _ _ _ h) (Ks_no))
    | 5 =>
      refine Ks_eq (by rw [x_stringOf__12]) ?_
      exact Ks_so h
    | b + 6 =>
      exact Ks_eq (by rw [x_stringOf__12]) Ks_no
theorem ks_newAtom : ∀ (k b : Nat) (L : Nat → Int32) (σ : MS), ks w σ → Ks w (x_newAtom k b L σ) := by
  intro k
  induction k with
  | zero => intro b L σ _; exact Ks_no
  | succ k ih =>
    intro b L σ h
    match b with
    | 0 =>
      refine Ks_eq (by rw [x_newAtom]) ?_
      exact Ks_ite (Ks_ob (ks_fail _ _ _ _ h) (fun _ h36 => Ks_so h36)) (ih _ _ _ h)
    | 1 =>
      refine Ks_eq (by rw [x_newAtom]) ?_
      exact ih _ _ _ h
    | 2 =>
      refine Ks_eq (by rw [x_newAtom]) ?_
      exact Ks_ob (ks_make _ _ _ _ h) (fun _ h37 => Ks_ite (ih _ _ _ h37) (Ks_so h37))
    | 3 =>
      refine Ks_eq (by rw [x_newAtom]) ?_
      exact Ks_ite (ih _ _ _ h) (Ks_no)
    | 4 =>
      refine Ks_eq (by rw [x_newAtom]) ?_
      exact Ks_so h
    | b + 5 =>
      exact Ks_eq (by rw [x_newAtom]) Ks_no
theorem ks_valueOf : ∀ (k b : Nat) (L : Nat → Int32) (σ : MS), ks w σ → Ks w (x_valueOf k b L σ) := by
  intro k
  induction k with
  | zero => intro b L σ _; exact Ks_no
  | succ k ih =>
    intro b L σ h
    match b with
    | 0 =>
      refine Ks_eq (by rw [x_valueOf]) ?_
      exact Ks_ite (Ks_ite (Ks_ite (Ks_ite (Ks_so h) (Ks_no)) (Ks_no)) (ih _ _ _ h)) (Ks_no)
    | 1 =>
      refine Ks_eq (by rw [x_valueOf]) ?_
      exact Ks_ite (ih _ _ _ h) (Ks_ite (Ks_ite (ih _ _ _ h) (Ks_no)) (Ks_no))
    | 2 =>
      refine Ks_eq (by rw [x_valueOf]) ?_
      exact Ks_ite (Ks_ite (Ks_ite (ih _ _ _ h) (Ks_no)) (Ks_no)) (Ks_no)
    | 3 =>
      refine Ks_eq (by rw [x_valueOf]) ?_
      exact Ks_so h
    | b + 4 =>
      exact Ks_eq (by rw [x_valueOf]) Ks_no
theorem ks_pop : ∀ (k b : Nat) (L : Nat → Int32) (σ : MS), ks w σ → Ks w (x_pop k b L σ) := by
  intro k
  induction k with
  | zero => intro b L σ _; exact Ks_no
  | succ k ih =>
    intro b L σ h
    match b with
    | 0 =>
      refine Ks_eq (by rw [x_pop]) ?_
      exact ih _ _ _ h
    | 1 =>
      refine Ks_eq (by rw [x_pop]) ?_
      exact Ks_ite (Ks_so h) (Ks_no)
    | b + 2 =>
      exact Ks_eq (by rw [x_pop]) Ks_no
theorem ks_kind : ∀ (k b : Nat) (L : Nat → Int32) (σ : MS), ks w σ → Ks w (x_kind k b L σ) := by
  intro k
  induction k with
  | zero => intro b L σ _; exact Ks_no
  | succ k ih =>
    intro b L σ h
    match b with
    | 0 =>
      refine Ks_eq (by rw [x_kind]) ?_
      exact Ks_ite (ih _ _ _ h) (ih _ _ _ h)
    | 1 =>
      refine Ks_eq (by rw [x_kind]) ?_
      exact Ks_ite (ih _ _ _ h) (ih _ _ _ h)
    | 2 =>
      refine Ks_eq (by rw [x_kind]) ?_
      exact Ks_ite (ih _ _ _ h) (Ks_no)
    | 3 =>
      refine Ks_eq (by rw [x_kind]) ?_
      exact Ks_so h
    | b + 4 =>
      exact Ks_eq (by rw [x_kind]) Ks_no
theorem ks_wrongKind : ∀ (k b : Nat) (L : Nat → Int32) (σ : MS), ks w σ → Ks w (x_wrongKind k b L σ) := by
  intro k
  induction k with
  | zero => intro b L σ _; exact Ks_no
  | succ k ih =>
    intro b L σ h
    match b with
    | 0 =>
      refine Ks_eq (by rw [x_wrongKind]) ?_
      exact Ks_ob (ks_fail _ _ _ _ h) (fun _ h38 => Ks_so h38)
    | b + 1 =>
      exact Ks_eq (by rw [x_wrongKind]) Ks_no
theorem ks_signOf : ∀ (k b : Nat) (L : Nat → Int32) (σ : MS), ks w σ → Ks w (x_signOf k b L σ) := by
  intro k
  induction k with
  | zero => intro b L σ _; exact Ks_no
  | succ k ih =>
    intro b L σ h
    match b with
    | 0 =>
      refine Ks_eq (by rw [x_signOf]) ?_
      exact Ks_ite (Ks_so h) (Ks_no)
    | b + 1 =>
      exact Ks_eq (by rw [x_signOf]) Ks_no
theorem ks_loadA : ∀ (k b : Nat) (L : Nat → Int32) (σ : MS), ks w σ → Ks w (x_loadA k b L σ) := by
  intro k
  induction k with
  | zero => intro b L σ _; exact Ks_no
  | succ k ih =>
    intro b L σ h
    match b with
    | 0 =>
      refine Ks_eq (by rw [x_loadA]) ?_
      exact Ks_ite (ih _ _ _ h) (Ks_no)
    | 1 =>
      refine Ks_eq (by rw [x_loadA]) ?_
      exact ih _ _ _ h
    | 2 =>
      refine Ks_eq (by rw [x_loadA]) ?_
      exact Ks_ite (ih _ _ _ h) (Ks_ite (Ks_ite (ih _ _ _ h) (Ks_no)) (Ks_no))
    | 3 =>
      refine Ks_eq (by rw [x_loadA]) ?_
      exact ih _ _ _ h
    | 4 =>
      refine Ks_eq (by rw [x_loadA]) ?_
      exact Ks_so h
    | b + 5 =>
      exact Ks_eq (by rw [x_loadA]) Ks_no
theorem ks_other : ∀ (k b : Nat) (L : Nat → Int32) (σ : MS), ks w σ → Ks w (x_other k b L σ) := by
  intro k
  induction k with
  | zero => intro b L σ _; exact Ks_no
  | succ k ih =>
    intro b L σ h
    match b with
    | 0 =>
      refine Ks_eq (by rw [x_other]) ?_
      exact Ks_ob (ks_loadA _ _ _ _ h) (fun _ h39 => ih _ _ _ h39)
    | 1 =>
      refine Ks_eq (by rw [x_other]) ?_
      exact ih _ _ _ h
    | 2 =>
      refine Ks_eq (by rw [x_other]) ?_
      exact Ks_ite (ih _ _ _ h) (Ks_ite (Ks_ite (ih _ _ _ h) (Ks_no)) (Ks_no))
    | 3 =>
      refine Ks_eq (by rw [x_other]) ?_
      exact ih _ _ _ h
    | 4 =>
      refine Ks_eq (by rw [x_other]) ?_
      exact Ks_ob (ks_signOf _ _ _ _ h) (fun _ h40 => Ks_ob (ks_wholeOf _ _ _ _ h40) (fun _ h41 => Ks_so h41))
    | b + 5 =>
      exact Ks_eq (by rw [x_other]) Ks_no
theorem ks_isMap : ∀ (k b : Nat) (L : Nat → Int32) (σ : MS), ks w σ → Ks w (x_isMap k b L σ) := by
  intro k
  induction k with
  | zero => intro b L σ _; exact Ks_no
  | succ k ih =>
    intro b L σ h
    match b with
    | 0 =>
      refine Ks_eq (by rw [x_isMap]) ?_
      exact Ks_ob (ks_kind _ _ _ _ h) (fun _ h42 => Ks_ite (ih _ _ _ h42) (ih _ _ _ h42))
    | 1 =>
      refine Ks_eq (by rw [x_isMap]) ?_
      exact ih _ _ _ h
    | 2 =>
      refine Ks_eq (by rw [x_isMap]) ?_
      exact ih _ _ _ h
    | 3 =>
      refine Ks_eq (by rw [x_isMap]) ?_
      exact Ks_ite (ih _ _ _ h) (Ks_ite (Ks_ite (ih _ _ _ h) (Ks_ite (Ks_ob (ks_kind _ _ _ _ h) (fun _ h43 => Ks_ite (Ks_ite (Ks_ite (ih _ _ _ h43) (ih _ _ _ h43)) (Ks_no)) (ih _ _ _ h43))) (Ks_no))) (Ks_no))
    | 4 =>
      refine Ks_eq (by rw [x_isMap]) ?_
      exact ih _ _ _ h
    | 5 =>
      refine Ks_eq (by rw [x_isMap]) ?_
      exact ih _ _ _ h
    | 6 =>
      refine Ks_eq (by rw [x_isMap]) ?_
      exact Ks_ite (Ks_so h) (Ks_no)
    | b + 7 =>
      exact Ks_eq (by rw [x_isMap]) Ks_no
theorem ks_rank : ∀ (k b : Nat) (L : Nat → Int32) (σ : MS), ks w σ → Ks w (x_rank k b L σ) := by
  intro k
  induction k with
  | zero => intro b L σ _; exact Ks_no
  | succ k ih =>
    intro b L σ h
    match b with
    | 0 =>
      refine Ks_eq (by rw [x_rank]) ?_
      exact Ks_ite (ih _ _ _ h) (ih _ _ _ h)
    | 1 =>
      refine Ks_eq (by rw [x_rank]) ?_
      exact Ks_ite (ih _ _ _ h) (Ks_no)
    | 2 =>
      refine Ks_eq (by rw [x_rank]) ?_
      exact Ks_so h
    | b + 3 =>
      exact Ks_eq (by rw [x_rank]) Ks_no
theorem ks_compareWholes : ∀ (k b : Nat) (L : Nat → Int32) (σ : MS), ks w σ → Ks w (x_compareWholes k b L σ) := by
  intro k
  induction k with
  | zero => intro b L σ _; exact Ks_no
  | succ k ih =>
    intro b L σ h
    match b with
    | 0 =>
      refine Ks_eq (by rw [x_compareWholes]) ?_
      exact Ks_ob (ks_signOf _ _ _ _ h) (fun _ h44 => Ks_ob (ks_signOf _ _ _ _ h44) (fun _ h45 => Ks_ite (ih _ _ _ h45) (Ks_ob (ks_signOf _ _ _ _ h45) (fun _ h46 => Ks_ob (ks_signOf _ _ _ _ h46) (fun _ h47 => Ks_so h47)))))
    | 1 =>
      refine Ks_eq (by rw [x_compareWholes]) ?_
      exact Ks_ite (Ks_ite (ih _ _ _ h) (Ks_no)) (Ks_no)
    | 2 =>
      refine Ks_eq (by rw [x_compareWholes]) ?_
      exact Ks_ite (ih _ _ _ h) (Ks_ite (Ks_ite (Ks_ite (ih _ _ _ h) (Ks_no)) (Ks_no)) (ih _ _ _ h))
    | 3 =>
      refine Ks_eq (by rw [x_compareWholes]) ?_
      exact Ks_ob (ks_signOf _ _ _ _ h) (fun _ h48 => Ks_ite (ih _ _ _ h48) (ih _ _ _ h48))
    | 4 =>
      refine Ks_eq (by rw [x_compareWholes]) ?_
      exact ih _ _ _ h
    | 5 =>
      refine Ks_eq (by rw [x_compareWholes]) ?_
      exact Ks_so h
    | b + 6 =>
      exact Ks_eq (by rw [x_compareWholes]) Ks_no
theorem ks_s_compare {X : Nat → Nat → Nat → (Nat → Int32) → MS → Option (Int32 × MS)} (hX : ∀ e m b L (σ : MS), ks w σ → Ks w (X e m b L σ)) (k d b : Nat) (L : Nat → Int32) (σ : MS) (h : ks w σ) : Ks w (s_compare X k d b L σ) := by
  match b with
  | 0 => exact Ks_ite (Ks_so h) (hX _ _ _ _ _ h)
  | 1 => exact Ks_ob (ks_rank _ _ _ _ h) (fun _ h49 => Ks_ob (ks_rank _ _ _ _ h49) (fun _ h50 => Ks_ite (hX _ _ _ _ _ h50) (Ks_so h50)))
  | 2 => exact Ks_ite (Ks_ite (Ks_ob (ks_compareWholes _ _ _ _ h) (fun _ h51 => Ks_so h51)) (hX _ _ _ _ _ h)) (Ks_no)
  | 3 => exact Ks_ite (Ks_ite (hX _ _ _ _ _ h) (Ks_no)) (Ks_no)
  | 4 => exact Ks_ite (hX _ _ _ _ _ h) (Ks_ite (hX _ _ _ _ _ h) (Ks_ite (hX _ _ _ _ _ h) (Ks_ite (hX _ _ _ _ _ h) (hX _ _ _ _ _ h))))
  | 5 => exact Ks_ite (Ks_ite (Ks_od (fun _ => Ks_ob (hX _ _ _ _ _ h) (fun _ h52 => hX _ _ _ _ _ h52))) (Ks_no)) (Ks_no)
  | 6 => exact Ks_ite (Ks_ite (hX _ _ _ _ _ h) (Ks_no)) (Ks_no)
  | 7 => exact Ks_ite (hX _ _ _ _ _ h) (Ks_so h)
  | 8 => exact hX _ _ _ _ _ h
  | 9 => exact Ks_so h
  | b + 10 => exact Ks_no
theorem ks_GC : ∀ (k d m b : Nat) (L : Nat → Int32) (σ : MS), ks w σ → Ks w (x_GC k d m b L σ) := by
  intro k
  induction k with
  | zero => intro d m b L σ _; exact Ks_no
  | succ k ih =>
    intro d m b L σ h
    match m with
    | 0 => exact ks_s_compare ih k d b L σ h
    | m + 1 => exact Ks_no
theorem ks_compare (k b : Nat) (L : Nat → Int32) (σ : MS) (h : ks w σ) : Ks w (x_compare k b L σ) := ks_GC k 40 0 b L σ h
theorem ks_merge : ∀ (k b : Nat) (L : Nat → Int32) (σ : MS), ks w σ → Ks w (x_merge k b L σ) := by
  intro k
  induction k with
  | zero => intro b L σ _; exact Ks_no
  | succ k ih =>
    intro b L σ h
    match b with
    | 0 =>
      refine Ks_eq (by rw [x_merge]) ?_
      exact ih _ _ _ h
    | 1 =>
      refine Ks_eq (by rw [x_merge]) ?_
      exact Ks_ite (ih _ _ _ h) (Ks_ite (ih _ _ _ h) (Ks_ite (ih _ _ _ h) (Ks_ite (Ks_ite (Ks_ob (ks_compare _ _ _ _ h) (fun _ h53 => Ks_ite (ih _ _ _ h53) (ih _ _ _ h53))) (Ks_no)) (Ks_no))))
    | 2 =>
      refine Ks_eq (by rw [x_merge]) ?_
      exact ih _ _ _ h
    | 3 =>
      refine Ks_eq (by rw [x_merge]) ?_
      exact ih _ _ _ h
    | 4 =>
      refine Ks_eq (by rw [x_merge]) ?_
      exact Ks_ite (ih _ _ _ h) (Ks_ite (ih _ _ _ h) (Ks_no))
    | 5 =>
      refine Ks_eq (by rw [x_merge]) ?_
      exact Ks_ite (ih _ _ _ h) (Ks_no)
    | 6 =>
      refine Ks_eq (by rw [x_merge]) ?_
      exact Ks_ite (ih _ _ _ h) (Ks_no)
    | 7 =>
      refine Ks_eq (by rw [x_merge]) ?_
      exact Ks_ite (ih _ _ _ h) (ih _ _ _ h)
    | 8 =>
      refine Ks_eq (by rw [x_merge]) ?_
      exact ih _ _ _ h
    | 9 =>
      refine Ks_eq (by rw [x_merge]) ?_
      exact Ks_ite (ih _ _ _ h) (ih _ _ _ h)
    | 10 =>
      refine Ks_eq (by rw [x_merge]) ?_
      exact ih _ _ _ h
    | 11 =>
      refine Ks_eq (by rw [x_merge]) ?_
      exact ih _ _ _ h
    | 12 =>
      refine Ks_eq (by rw [x_merge]) ?_
      exact Ks_so h
    | b + 13 =>
      exact Ks_eq (by rw [x_merge]) Ks_no
theorem ks_distinct : ∀ (k b : Nat) (L : Nat → Int32) (σ : MS), ks w σ → Ks w (x_distinct k b L σ) := by
  intro k
  induction k with
  | zero => intro b L σ _; exact Ks_no
  | succ k ih =>
    intro b L σ h
    match b with
    | 0 =>
      refine Ks_eq (by rw [x_distinct]) ?_
      exact ih _ _ _ h
    | 1 =>
      refine Ks_eq (by rw [x_distinct]) ?_
      exact Ks_ite (ih _ _ _ h) (ih _ _ _ h)
    | 2 =>
      refine Ks_eq (by rw [x_distinct]) ?_
      exact Ks_ite (ih _ _ _ h) (Ks_ite (ih _ _ _ h) (ih _ _ _ h))
    | 3 =>
      refine Ks_eq (by rw [x_distinct]) ?_
      exact ih _ _ _ h
    | 4 =>
      refine Ks_eq (by rw [x_distinct]) ?_
      exact Ks_ite (ih _ _ _ h) (ih _ _ _ h)
    | 5 =>
      refine Ks_eq (by rw [x_distinct]) ?_
      exact ih _ _ _ h
    | 6 =>
      refine Ks_eq (by rw [x_distinct]) ?_
      exact Ks_ob (ks_merge _ _ _ _ h) (fun _ h54 => ih _ _ _ h54)
    | 7 =>
      refine Ks_eq (by rw [x_distinct]) ?_
      exact ih _ _ _ h
    | 8 =>
      refine Ks_eq (by rw [x_distinct]) ?_
      exact Ks_ite (ih _ _ _ h) (Ks_ite (Ks_ite (ih _ _ _ h) (Ks_no)) (Ks_no))
    | 9 =>
      refine Ks_eq (by rw [x_distinct]) ?_
      exact ih _ _ _ h
    | 10 =>
      refine Ks_eq (by rw [x_distinct]) ?_
      exact ih _ _ _ h
    | 11 =>
      refine Ks_eq (by rw [x_distinct]) ?_
      exact ih _ _ _ h
    | 12 =>
      refine Ks_eq (by rw [x_distinct]) ?_
      exact Ks_ite (ih _ _ _ h) (Ks_ite (ih _ _ _ h) (Ks_ite (Ks_ite (Ks_ob (ks_compare _ _ _ _ h) (fun _ h55 => Ks_ite (ih _ _ _ h55) (ih _ _ _ h55))) (Ks_no)) (Ks_no)))
    | 13 =>
      refine Ks_eq (by rw [x_distinct]) ?_
      exact Ks_ite (Ks_ite (ih _ _ _ h) (Ks_no)) (Ks_no)
    | 14 =>
      refine Ks_eq (by rw [x_distinct]) ?_
      exact ih _ _ _ h
    | 15 =>
      refine Ks_eq (by rw [x_distinct]) ?_
      exact ih _ _ _ h
    | 16 =>
      refine Ks_eq (by rw [x_distinct]) ?_
      exact Ks_so h
    | b + 17 =>
      exact Ks_eq (by rw [x_distinct]) Ks_no
theorem ks_height : ∀ (k b : Nat) (L : Nat → Int32) (σ : MS), ks w σ → Ks w (x_height k b L σ) := by
  intro k
  induction k with
  | zero => intro b L σ _; exact Ks_no
  | succ k ih =>
    intro b L σ h
    match b with
    | 0 =>
      refine Ks_eq (by rw [x_height]) ?_
      exact Ks_ite (ih _ _ _ h) (ih _ _ _ h)
    | 1 =>
      refine Ks_eq (by rw [x_height]) ?_
      exact Ks_ite (ih _ _ _ h) (Ks_no)
    | 2 =>
      refine Ks_eq (by rw [x_height]) ?_
      exact Ks_so h
    | b + 3 =>
      exact Ks_eq (by rw [x_height]) Ks_no
theorem ks_checked : ∀ (k b : Nat) (L : Nat → Int32) (σ : MS), ks w σ → Ks w (x_checked k b L σ) := by
  intro k
  induction k with
  | zero => intro b L σ _; exact Ks_no
  | succ k ih =>
    intro b L σ h
    match b with
    | 0 =>
      refine Ks_eq (by rw [x_checked]) ?_
      exact Ks_ite (Ks_ite (Ks_ite (ih _ _ _ h) (Ks_ite (Ks_ite (ih _ _ _ h) (ih _ _ _ h)) (Ks_no))) (Ks_no)) (ih _ _ _ h)
    | 1 =>
      refine Ks_eq (by rw [x_checked]) ?_
      exact Ks_ob (ks_fail _ _ _ _ h) (fun _ h56 => ih _ _ _ h56)
    | 2 =>
      refine Ks_eq (by rw [x_checked]) ?_
      exact Ks_ite (ih _ _ _ h) (ih _ _ _ h)
    | 3 =>
      refine Ks_eq (by rw [x_checked]) ?_
      exact ih _ _ _ h
    | 4 =>
      refine Ks_eq (by rw [x_checked]) ?_
      exact Ks_so h
    | b + 5 =>
      exact Ks_eq (by rw [x_checked]) Ks_no
theorem ks_measured : ∀ (k b : Nat) (L : Nat → Int32) (σ : MS), ks w σ → Ks w (x_measured k b L σ) := by
  intro k
  induction k with
  | zero => intro b L σ _; exact Ks_no
  | succ k ih =>
    intro b L σ h
    match b with
    | 0 =>
      refine Ks_eq (by rw [x_measured]) ?_
      exact Ks_ite (ih _ _ _ h) (Ks_no)
    | 1 =>
      refine Ks_eq (by rw [x_measured]) ?_
      exact Ks_ite (ih _ _ _ h) (Ks_ite (Ks_ob (ks_size _ _ _ _ h) (fun _ h57 => Ks_ob (ks_height _ _ _ _ h57) (fun _ h58 => Ks_ite (ih _ _ _ h58) (Ks_ob (ks_height _ _ _ _ h58) (fun _ h59 => ih _ _ _ h59))))) (Ks_no))
    | 2 =>
      refine Ks_eq (by rw [x_measured]) ?_
      exact ih _ _ _ h
    | 3 =>
      refine Ks_eq (by rw [x_measured]) ?_
      exact ih _ _ _ h
    | 4 =>
      refine Ks_eq (by rw [x_measured]) ?_
      exact Ks_ite (ih _ _ _ h) (Ks_no)
    | 5 =>
      refine Ks_eq (by rw [x_measured]) ?_
      exact Ks_ite (ih _ _ _ h) (Ks_no)
    | 6 =>
      refine Ks_eq (by rw [x_measured]) ?_
      exact Ks_ob (ks_checked _ _ _ _ h) (fun _ h60 => Ks_so h60)
    | b + 7 =>
      exact Ks_eq (by rw [x_measured]) Ks_no
theorem ks_setOf : ∀ (k b : Nat) (L : Nat → Int32) (σ : MS), ks w σ → Ks w (x_setOf k b L σ) := by
  intro k
  induction k with
  | zero => intro b L σ _; exact Ks_no
  | succ k ih =>
    intro b L σ h
    match b with
    | 0 =>
      refine Ks_eq (by rw [x_setOf]) ?_
      exact Ks_ob (ks_distinct _ _ _ _ h) (fun _ h61 => ih _ _ _ h61)
    | 1 =>
      refine Ks_eq (by rw [x_setOf]) ?_
      exact Ks_ob (ks_make _ _ _ _ h) (fun _ h62 => Ks_ite (ih _ _ _ h62) (Ks_so h62))
    | 2 =>
      refine Ks_eq (by rw [x_setOf]) ?_
      exact ih _ _ _ h
    | 3 =>
      refine Ks_eq (by rw [x_setOf]) ?_
      exact Ks_ite (ih _ _ _ h) (Ks_ite (Ks_ite (ih _ _ _ h) (Ks_no)) (Ks_no))
    | 4 =>
      refine Ks_eq (by rw [x_setOf]) ?_
      exact ih _ _ _ h
    | 5 =>
      refine Ks_eq (by rw [x_setOf]) ?_
      exact Ks_ob (ks_measured _ _ _ _ h) (fun _ h63 => Ks_so h63)
    | b + 6 =>
      exact Ks_eq (by rw [x_setOf]) Ks_no
theorem ks_side : ∀ (k b : Nat) (L : Nat → Int32) (σ : MS), ks w σ → Ks w (x_side k b L σ) := by
  intro k
  induction k with
  | zero => intro b L σ _; exact Ks_no
  | succ k ih =>
    intro b L σ h
    match b with
    | 0 =>
      refine Ks_eq (by rw [x_side]) ?_
      exact Ks_ob (ks_isMap _ _ _ _ h) (fun _ h64 => Ks_ite (Ks_ob (ks_wrongKind _ _ _ _ h64) (fun _ h65 => Ks_so h65)) (ih _ _ _ h64))
    | 1 =>
      refine Ks_eq (by rw [x_side]) ?_
      exact ih _ _ _ h
    | 2 =>
      refine Ks_eq (by rw [x_side]) ?_
      exact Ks_ite (Ks_ite (ih _ _ _ h) (Ks_ite (Ks_ite (Ks_ob (ks_push _ _ _ _ h) (fun _ h66 => ih _ _ _ h66)) (Ks_no)) (Ks_no))) (Ks_no)
    | 3 =>
      refine Ks_eq (by rw [x_side]) ?_
      exact ih _ _ _ h
    | 4 =>
      refine Ks_eq (by rw [x_side]) ?_
      exact Ks_ite (ih _ _ _ h) (Ks_ite (Ks_ite (Ks_ite (ih _ _ _ h) (ih _ _ _ h)) (Ks_no)) (ih _ _ _ h))
    | 5 =>
      refine Ks_eq (by rw [x_side]) ?_
      exact ih _ _ _ h
    | 6 =>
      refine Ks_eq (by rw [x_side]) ?_
      exact ih _ _ _ h
    | 7 =>
      refine Ks_eq (by rw [x_side]) ?_
      exact ih _ _ _ h
    | 8 =>
      refine Ks_eq (by rw [x_side]) ?_
      exact Ks_ite (ih _ _ _ h) (ih _ _ _ h)
    | 9 =>
      refine Ks_eq (by rw [x_side]) ?_
      exact Ks_ob (ks_fail _ _ _ _ h) (fun _ h67 => Ks_so h67)
    | 10 =>
      refine Ks_eq (by rw [x_side]) ?_
      exact Ks_ob (ks_setOf _ _ _ _ h) (fun _ h68 => Ks_so h68)
    | b + 11 =>
      exact Ks_eq (by rw [x_side]) Ks_no
theorem ks_powerSet : ∀ (k b : Nat) (L : Nat → Int32) (σ : MS), ks w σ → Ks w (x_powerSet k b L σ) := by
  intro k
  induction k with
  | zero => intro b L σ _; exact Ks_no
  | succ k ih =>
    intro b L σ h
    match b with
    | 0 =>
      refine Ks_eq (by rw [x_powerSet]) ?_
      exact Ks_ob (ks_kind _ _ _ _ h) (fun _ h69 => Ks_ite (ih _ _ _ h69) (Ks_ob (ks_wrongKind _ _ _ _ h69) (fun _ h70 => Ks_so h70)))
    | 1 =>
      refine Ks_eq (by rw [x_powerSet]) ?_
      exact Ks_ite (Ks_ite (ih _ _ _ h) (Ks_ob (ks_fail _ _ _ _ h) (fun _ h71 => Ks_so h71))) (Ks_no)
    | 2 =>
      refine Ks_eq (by rw [x_powerSet]) ?_
      exact ih _ _ _ h
    | 3 =>
      refine Ks_eq (by rw [x_powerSet]) ?_
      exact Ks_ite (ih _ _ _ h) (Ks_ite (ih _ _ _ h) (ih _ _ _ h))
    | 4 =>
      refine Ks_eq (by rw [x_powerSet]) ?_
      exact Ks_ite (ih _ _ _ h) (Ks_ite (Ks_ite (Ks_ob (ks_push _ _ _ _ h) (fun _ h72 => ih _ _ _ h72)) (Ks_no)) (ih _ _ _ h))
    | 5 =>
      refine Ks_eq (by rw [x_powerSet]) ?_
      exact ih _ _ _ h
    | 6 =>
      refine Ks_eq (by rw [x_powerSet]) ?_
      exact Ks_ob (ks_setOf _ _ _ _ h) (fun _ h73 => Ks_ob (ks_push _ _ _ _ h73) (fun _ h74 => ih _ _ _ h74))
    | 7 =>
      refine Ks_eq (by rw [x_powerSet]) ?_
      exact Ks_ite (Ks_ob (ks_setOf _ _ _ _ h) (fun _ h75 => ih _ _ _ h75)) (ih _ _ _ h)
    | 8 =>
      refine Ks_eq (by rw [x_powerSet]) ?_
      exact ih _ _ _ h
    | 9 =>
      refine Ks_eq (by rw [x_powerSet]) ?_
      exact Ks_so h
    | b + 10 =>
      exact Ks_eq (by rw [x_powerSet]) Ks_no
theorem ks_put : ∀ (k b : Nat) (L : Nat → Int32) (σ : MS), ks w σ → Ks w (x_put k b L σ) := by
  intro k
  induction k with
  | zero => intro b L σ _; exact Ks_no
  | succ k ih =>
    intro b L σ h
    match b with
    | 0 =>
      refine Ks_eq (by rw [x_put]) ?_
      exact Ks_ite (ih _ _ _ h) (Ks_no)
    | 1 =>
      refine Ks_eq (by rw [x_put]) ?_
      exact Ks_so h
    | b + 2 =>
      exact Ks_eq (by rw [x_put]) Ks_no
theorem ks_putWord : ∀ (k b : Nat) (L : Nat → Int32) (σ : MS), ks w σ → Ks w (x_putWord k b L σ) := by
  intro k
  induction k with
  | zero => intro b L σ _; exact Ks_no
  | succ k ih =>
    intro b L σ h
    match b with
    | 0 =>
      refine Ks_eq (by rw [x_putWord]) ?_
      exact ih _ _ _ h
    | 1 =>
      refine Ks_eq (by rw [x_putWord]) ?_
      exact Ks_ite (ih _ _ _ h) (Ks_ite (Ks_ite (ih _ _ _ h) (ih _ _ _ h)) (Ks_no))
    | 2 =>
      refine Ks_eq (by rw [x_putWord]) ?_
      exact ih _ _ _ h
    | 3 =>
      refine Ks_eq (by rw [x_putWord]) ?_
      exact ih _ _ _ h
    | 4 =>
      refine Ks_eq (by rw [x_putWord]) ?_
      exact Ks_ite (Ks_ite (ih _ _ _ h) (Ks_ite (Ks_ob (ks_put _ _ _ _ h) (fun _ h76 => ih _ _ _ h76)) (Ks_no))) (Ks_no)
    | 5 =>
      refine Ks_eq (by rw [x_putWord]) ?_
      exact Ks_so h
    | b + 6 =>
      exact Ks_eq (by rw [x_putWord]) Ks_no
theorem ks_stringOf__48 : ∀ (k b : Nat) (L : Nat → Int32) (σ : MS), ks w σ → Ks w (x_stringOf__48 k b L σ) := by
  intro k
  induction k with
  | zero => intro b L σ _; exact Ks_no
  | succ k ih =>
    intro b L σ h
    match b with
    | 0 =>
      refine Ks_eq (by rw [x_stringOf__48]) ?_
      exact Ks_ite (Ks_no) (Ks_ite (ih _ _ _ h) (Ks_ob (ks_fail _ _ _ _ h) (fun _ h77 => Ks_so h77)))
    | 1 =>
      refine Ks_eq (by rw [x_stringOf__48]) ?_
      exact Ks_ob (ks_make _ _ _ _ h) (fun _ h78 => ih _ _ _ h78)
    | 2 =>
      refine Ks_eq (by rw [x_stringOf__48]) ?_
      exact Ks_ite (ih _ _ _ h) (Ks_ite (Ks_ite (Ks_ite (ih _ _ _ h) (Ks_no)) (Ks_no)) (ih _ _ _ h))
    | 3 =>
      refine Ks_eq (by rw [x_stringOf__48]) ?_
      exact ih _ _ _ h
    | 4 =>
      refine Ks_eq (by rw [x_stringOf__48]) ?_
      exact Ks_ite (Ks_no) (Ks_ite (ih _ _ _ h) (Ks_no))
    | 5 =>
      refine Ks_eq (by rw [x_stringOf__48]) ?_
      exact Ks_so h
    | b + 6 =>
      exact Ks_eq (by rw [x_stringOf__48]) Ks_no
theorem ks_typeOf : ∀ (k b : Nat) (L : Nat → Int32) (σ : MS), ks w σ → Ks w (x_typeOf k b L σ) := by
  intro k
  induction k with
  | zero => intro b L σ _; exact Ks_no
  | succ k ih =>
    intro b L σ h
    match b with
    | 0 =>
      refine Ks_eq (by rw [x_typeOf]) ?_
      exact ih _ _ _ h
    | 1 =>
      refine Ks_eq (by rw [x_typeOf]) ?_
      exact Ks_ob (ks_kind _ _ _ _ h) (fun _ h79 => Ks_ob (ks_putWord _ _ _ _ h79) (fun _ h80 => Ks_ob (ks_stringOf__48 _ _ _ _ h80) (fun _ h81 => Ks_so h81)))
    | b + 2 =>
      exact Ks_eq (by rw [x_typeOf]) Ks_no
theorem ks_putTruth : ∀ (k b : Nat) (L : Nat → Int32) (σ : MS), ks w σ → Ks w (x_putTruth k b L σ) := by
  intro k
  induction k with
  | zero => intro b L σ _; exact Ks_no
  | succ k ih =>
    intro b L σ h
    match b with
    | 0 =>
      refine Ks_eq (by rw [x_putTruth]) ?_
      exact Ks_ite (ih _ _ _ h) (ih _ _ _ h)
    | 1 =>
      refine Ks_eq (by rw [x_putTruth]) ?_
      exact ih _ _ _ h
    | 2 =>
      refine Ks_eq (by rw [x_putTruth]) ?_
      exact Ks_ob (ks_put _ _ _ _ h) (fun _ h82 => Ks_ite (ih _ _ _ h82) (ih _ _ _ h82))
    | 3 =>
      refine Ks_eq (by rw [x_putTruth]) ?_
      exact ih _ _ _ h
    | 4 =>
      refine Ks_eq (by rw [x_putTruth]) ?_
      exact Ks_ob (ks_put _ _ _ _ h) (fun _ h83 => Ks_ite (ih _ _ _ h83) (ih _ _ _ h83))
    | 5 =>
      refine Ks_eq (by rw [x_putTruth]) ?_
      exact ih _ _ _ h
    | 6 =>
      refine Ks_eq (by rw [x_putTruth]) ?_
      exact Ks_ob (ks_put _ _ _ _ h) (fun _ h84 => Ks_ite (ih _ _ _ h84) (ih _ _ _ h84))
    | 7 =>
      refine Ks_eq (by rw [x_putTruth]) ?_
      exact ih _ _ _ h
    | 8 =>
      refine Ks_eq (by rw [x_putTruth]) ?_
      exact Ks_ob (ks_put _ _ _ _ h) (fun _ h85 => Ks_ite (Ks_ob (ks_put _ _ _ _ h85) (fun _ h86 => ih _ _ _ h86)) (ih _ _ _ h85))
    | 9 =>
      refine Ks_eq (by rw [x_putTruth]) ?_
      exact Ks_so h
    | b + 10 =>
      exact Ks_eq (by rw [x_putTruth]) Ks_no
theorem ks_putWhole : ∀ (k b : Nat) (L : Nat → Int32) (σ : MS), ks w σ → Ks w (x_putWhole k b L σ) := by
  intro k
  induction k with
  | zero => intro b L σ _; exact Ks_no
  | succ k ih =>
    intro b L σ h
    match b with
    | 0 =>
      refine Ks_eq (by rw [x_putWhole]) ?_
      exact Ks_ob (ks_loadA _ _ _ _ h) (fun _ h87 => Ks_ite (Ks_ite (ih _ _ _ h87) (Ks_no)) (ih _ _ _ h87))
    | 1 =>
      refine Ks_eq (by rw [x_putWhole]) ?_
      exact ih _ _ _ h
    | 2 =>
      refine Ks_eq (by rw [x_putWhole]) ?_
      exact Ks_ite (ih _ _ _ h) (ih _ _ _ h)
    | 3 =>
      refine Ks_eq (by rw [x_putWhole]) ?_
      exact Ks_ite (ih _ _ _ h) (Ks_ite (Ks_ite (Ks_no) (Ks_ite (ih _ _ _ h) (Ks_no))) (Ks_no))
    | 4 =>
      refine Ks_eq (by rw [x_putWhole]) ?_
      exact Ks_ite (Ks_no) (ih _ _ _ h)
    | 5 =>
      refine Ks_eq (by rw [x_putWhole]) ?_
      exact Ks_ite (ih _ _ _ h) (Ks_no)
    | 6 =>
      refine Ks_eq (by rw [x_putWhole]) ?_
      exact ih _ _ _ h
    | 7 =>
      refine Ks_eq (by rw [x_putWhole]) ?_
      exact Ks_ite (ih _ _ _ h) (Ks_ite (Ks_ite (ih _ _ _ h) (ih _ _ _ h)) (Ks_no))
    | 8 =>
      refine Ks_eq (by rw [x_putWhole]) ?_
      exact ih _ _ _ h
    | 9 =>
      refine Ks_eq (by rw [x_putWhole]) ?_
      exact Ks_ob (ks_signOf _ _ _ _ h) (fun _ h88 => Ks_ite (ih _ _ _ h88) (Ks_ob (ks_put _ _ _ _ h88) (fun _ h89 => ih _ _ _ h89)))
    | 10 =>
      refine Ks_eq (by rw [x_putWhole]) ?_
      exact ih _ _ _ h
    | 11 =>
      refine Ks_eq (by rw [x_putWhole]) ?_
      exact Ks_ite (ih _ _ _ h) (Ks_ite (Ks_ob (ks_put _ _ _ _ h) (fun _ h90 => ih _ _ _ h90)) (Ks_no))
    | 12 =>
      refine Ks_eq (by rw [x_putWhole]) ?_
      exact Ks_so h
    | b + 13 =>
      exact Ks_eq (by rw [x_putWhole]) Ks_no
theorem ks_s_putNumber {X : Nat → Nat → Nat → (Nat → Int32) → MS → Option (Int32 × MS)} (hX : ∀ e m b L (σ : MS), ks w σ → Ks w (X e m b L σ)) (k d b : Nat) (L : Nat → Int32) (σ : MS) (h : ks w σ) : Ks w (s_putNumber X k d b L σ) := by
  match b with
  | 0 => exact Ks_ite (hX _ _ _ _ _ h) (Ks_od (fun _ => Ks_ob (hX _ _ _ _ _ h) (fun _ h91 => hX _ _ _ _ _ h91)))
  | 1 => exact Ks_ob (ks_put _ _ _ _ h) (fun _ h92 => Ks_so h92)
  | b + 2 => exact Ks_no
theorem ks_GN : ∀ (k d m b : Nat) (L : Nat → Int32) (σ : MS), ks w σ → Ks w (x_GN k d m b L σ) := by
  intro k
  induction k with
  | zero => intro d m b L σ _; exact Ks_no
  | succ k ih =>
    intro d m b L σ h
    match m with
    | 0 => exact ks_s_putNumber ih k d b L σ h
    | m + 1 => exact Ks_no
theorem ks_putNumber (k b : Nat) (L : Nat → Int32) (σ : MS) (h : ks w σ) : Ks w (x_putNumber k b L σ) := ks_GN k 12 0 b L σ h
theorem ks_s_print {X : Nat → Nat → Nat → (Nat → Int32) → MS → Option (Int32 × MS)} (hX : ∀ e m b L (σ : MS), ks w σ → Ks w (X e m b L σ)) (k d b : Nat) (L : Nat → Int32) (σ : MS) (h : ks w σ) : Ks w (s_print X k d b L σ) := by
  match b with
  | 0 => exact Ks_ob (ks_kind _ _ _ _ h) (fun _ h93 => Ks_ite (Ks_ob (ks_put _ _ _ _ h93) (fun _ h94 => Ks_ob (ks_put _ _ _ _ h94) (fun _ h95 => hX _ _ _ _ _ h95))) (hX _ _ _ _ _ h93))
  | 1 => exact Ks_ite (Ks_ite (hX _ _ _ _ _ h) (hX _ _ _ _ _ h)) (hX _ _ _ _ _ h)
  | 2 => exact hX _ _ _ _ _ h
  | 3 => exact Ks_ob (ks_putTruth _ _ _ _ h) (fun _ h96 => hX _ _ _ _ _ h96)
  | 4 => exact Ks_ite (Ks_ob (ks_putWhole _ _ _ _ h) (fun _ h97 => hX _ _ _ _ _ h97)) (hX _ _ _ _ _ h)
  | 5 => exact Ks_ite (Ks_ob (ks_put _ _ _ _ h) (fun _ h98 => Ks_ite (Ks_ob (ks_putNumber _ _ _ _ h98) (fun _ h99 => hX _ _ _ _ _ h99)) (Ks_no))) (hX _ _ _ _ _ h)
  | 6 => exact Ks_ite (Ks_ite (Ks_ob (ks_put _ _ _ _ h) (fun _ h100 => hX _ _ _ _ _ h100)) (hX _ _ _ _ _ h)) (hX _ _ _ _ _ h)
  | 7 => exact hX _ _ _ _ _ h
  | 8 => exact Ks_ite (Ks_ite (hX _ _ _ _ _ h) (Ks_ite (Ks_ob (ks_put _ _ _ _ h) (fun _ h101 => hX _ _ _ _ _ h101)) (Ks_no))) (Ks_no)
  | 9 => exact Ks_ite (Ks_ob (ks_put _ _ _ _ h) (fun _ h102 => hX _ _ _ _ _ h102)) (hX _ _ _ _ _ h)
  | 10 => exact Ks_ite (hX _ _ _ _ _ h) (hX _ _ _ _ _ h)
  | 11 => exact hX _ _ _ _ _ h
  | 12 => exact Ks_ob (ks_put _ _ _ _ h) (fun _ h103 => hX _ _ _ _ _ h103)
  | 13 => exact Ks_ite (Ks_ite (hX _ _ _ _ _ h) (Ks_ite (hX _ _ _ _ _ h) (Ks_ob (ks_put _ _ _ _ h) (fun _ h104 => Ks_ob (ks_put _ _ _ _ h104) (fun _ h105 => hX _ _ _ _ _ h105))))) (Ks_no)
  | 14 => exact Ks_ite (Ks_od (fun _ => Ks_ob (hX _ _ _ _ _ h) (fun _ h106 => hX _ _ _ _ _ h106))) (Ks_no)
  | 15 => exact Ks_ite (hX _ _ _ _ _ h) (hX _ _ _ _ _ h)
  | 16 => exact hX _ _ _ _ _ h
  | 17 => exact Ks_ob (ks_put _ _ _ _ h) (fun _ h107 => hX _ _ _ _ _ h107)
  | 18 => exact Ks_so h
  | b + 19 => exact Ks_no
theorem ks_GP : ∀ (k d m b : Nat) (L : Nat → Int32) (σ : MS), ks w σ → Ks w (x_GP k d m b L σ) := by
  intro k
  induction k with
  | zero => intro d m b L σ _; exact Ks_no
  | succ k ih =>
    intro d m b L σ h
    match m with
    | 0 => exact ks_s_print ih k d b L σ h
    | m + 1 => exact Ks_no
theorem ks_print (k b : Nat) (L : Nat → Int32) (σ : MS) (h : ks w σ) : Ks w (x_print k b L σ) := ks_GP k 40 0 b L σ h
theorem ks_intOf : ∀ (k b : Nat) (L : Nat → Int32) (J : Nat → Int64) (σ : MS), ks w σ → Ks w (x_intOf k b L J σ) := by
  intro k
  induction k with
  | zero => intro b L J σ _; exact Ks_no
  | succ k ih =>
    intro b L J σ h
    match b with
    | 0 =>
      refine Ks_eq (by rw [x_intOf]) ?_
      exact Ks_ite (ih _ _ _ _ h) (Ks_no)
    | 1 =>
      refine Ks_eq (by rw [x_intOf]) ?_
      exact Ks_ite (ih _ _ _ _ h) (Ks_ite (ih _ _ _ _ h) (ih _ _ _ _ h))
    | 2 =>
      refine Ks_eq (by rw [x_intOf]) ?_
      exact Ks_ite (ih _ _ _ _ h) (Ks_no)
    | 3 =>
      refine Ks_eq (by rw [x_intOf]) ?_
      exact ih _ _ _ _ h
    | 4 =>
      refine Ks_eq (by rw [x_intOf]) ?_
      exact Ks_ite (ih _ _ _ _ h) (ih _ _ _ _ h)
    | 5 =>
      refine Ks_eq (by rw [x_intOf]) ?_
      exact ih _ _ _ _ h
    | 6 =>
      refine Ks_eq (by rw [x_intOf]) ?_
      exact Ks_ob (ks_signOf _ _ _ _ h) (fun _ h108 => Ks_ite (ih _ _ _ _ h108) (ih _ _ _ _ h108))
    | 7 =>
      refine Ks_eq (by rw [x_intOf]) ?_
      exact ih _ _ _ _ h
    | 8 =>
      refine Ks_eq (by rw [x_intOf]) ?_
      exact Ks_so h
    | b + 9 =>
      exact Ks_eq (by rw [x_intOf]) Ks_no
theorem ks_byteString : ∀ (k b : Nat) (L : Nat → Int32) (σ : MS), ks w σ → Ks w (x_byteString k b L σ) := by
  intro k
  induction k with
  | zero => intro b L σ _; exact Ks_no
  | succ k ih =>
    intro b L σ h
    match b with
    | 0 =>
      refine Ks_eq (by rw [x_byteString]) ?_
      exact Ks_ob (ks_make _ _ _ _ h) (fun _ h109 => Ks_ite (ih _ _ _ h109) (Ks_so h109))
    | 1 =>
      refine Ks_eq (by rw [x_byteString]) ?_
      exact Ks_ite (ih _ _ _ h) (Ks_no)
    | 2 =>
      refine Ks_eq (by rw [x_byteString]) ?_
      exact Ks_ite (ih _ _ _ h) (Ks_no)
    | 3 =>
      refine Ks_eq (by rw [x_byteString]) ?_
      exact Ks_so h
    | b + 4 =>
      exact Ks_eq (by rw [x_byteString]) Ks_no
theorem ks_character : ∀ (k b : Nat) (L : Nat → Int32) (σ : MS), ks w σ → Ks w (x_character k b L σ) := by
  intro k
  induction k with
  | zero => intro b L σ _; exact Ks_no
  | succ k ih =>
    intro b L σ h
    match b with
    | 0 =>
      refine Ks_eq (by rw [x_character]) ?_
      exact Ks_ob (ks_kind _ _ _ _ h) (fun _ h110 => Ks_ite (ih _ _ _ h110) (Ks_ob (ks_wrongKind _ _ _ _ h110) (fun _ h111 => Ks_so h111)))
    | 1 =>
      refine Ks_eq (by rw [x_character]) ?_
      exact Ks_ob (ks_intOf _ _ _ _ _ h) (fun _ h112 => Ks_ite (ih _ _ _ h112) (Ks_ite (ih _ _ _ h112) (ih _ _ _ h112)))
    | 2 =>
      refine Ks_eq (by rw [x_character]) ?_
      exact Ks_ob (ks_fail _ _ _ _ h) (fun _ h113 => Ks_so h113)
    | 3 =>
      refine Ks_eq (by rw [x_character]) ?_
      exact Ks_ob (ks_byteString _ _ _ _ h) (fun _ h114 => Ks_so h114)
    | b + 4 =>
      exact Ks_eq (by rw [x_character]) Ks_no
theorem ks_small : ∀ (k b : Nat) (L : Nat → Int32) (σ : MS), ks w σ → Ks w (x_small k b L σ) := by
  intro k
  induction k with
  | zero => intro b L σ _; exact Ks_no
  | succ k ih =>
    intro b L σ h
    match b with
    | 0 =>
      refine Ks_eq (by rw [x_small]) ?_
      exact ih _ _ _ h
    | 1 =>
      refine Ks_eq (by rw [x_small]) ?_
      exact Ks_ite (ih _ _ _ h) (ih _ _ _ h)
    | 2 =>
      refine Ks_eq (by rw [x_small]) ?_
      exact ih _ _ _ h
    | 3 =>
      refine Ks_eq (by rw [x_small]) ?_
      exact ih _ _ _ h
    | 4 =>
      refine Ks_eq (by rw [x_small]) ?_
      exact Ks_ite (ih _ _ _ h) (Ks_ite (ih _ _ _ h) (Ks_no))
    | 5 =>
      refine Ks_eq (by rw [x_small]) ?_
      exact ih _ _ _ h
    | 6 =>
      refine Ks_eq (by rw [x_small]) ?_
      exact Ks_ite (ih _ _ _ h) (ih _ _ _ h)
    | 7 =>
      refine Ks_eq (by rw [x_small]) ?_
      exact ih _ _ _ h
    | 8 =>
      refine Ks_eq (by rw [x_small]) ?_
      exact Ks_ob (ks_wholeOf _ _ _ _ h) (fun _ h115 => Ks_so h115)
    | b + 9 =>
      exact Ks_eq (by rw [x_small]) Ks_no
theorem ks_codeOf : ∀ (k b : Nat) (L : Nat → Int32) (σ : MS), ks w σ → Ks w (x_codeOf k b L σ) := by
  intro k
  induction k with
  | zero => intro b L σ _; exact Ks_no
  | succ k ih =>
    intro b L σ h
    match b with
    | 0 =>
      refine Ks_eq (by rw [x_codeOf]) ?_
      exact Ks_ob (ks_kind _ _ _ _ h) (fun _ h116 => Ks_ite (ih _ _ _ h116) (Ks_ob (ks_wrongKind _ _ _ _ h116) (fun _ h117 => Ks_so h117)))
    | 1 =>
      refine Ks_eq (by rw [x_codeOf]) ?_
      exact Ks_ite (Ks_ite (ih _ _ _ h) (Ks_ob (ks_fail _ _ _ _ h) (fun _ h118 => Ks_so h118))) (Ks_no)
    | 2 =>
      refine Ks_eq (by rw [x_codeOf]) ?_
      exact Ks_ite (Ks_ob (ks_small _ _ _ _ h) (fun _ h119 => Ks_so h119)) (Ks_no)
    | b + 3 =>
      exact Ks_eq (by rw [x_codeOf]) Ks_no
theorem ks_stringOf__51 : ∀ (k b : Nat) (L : Nat → Int32) (σ : MS), ks w σ → Ks w (x_stringOf__51 k b L σ) := by
  intro k
  induction k with
  | zero => intro b L σ _; exact Ks_no
  | succ k ih =>
    intro b L σ h
    match b with
    | 0 =>
      refine Ks_eq (by rw [x_stringOf__51]) ?_
      exact Ks_ite (Ks_no) (Ks_ite (ih _ _ _ h) (Ks_ob (ks_fail _ _ _ _ h) (fun _ h120 => Ks_so h120)))
    | 1 =>
      refine Ks_eq (by rw [x_stringOf__51]) ?_
      exact Ks_ob (ks_make _ _ _ _ h) (fun _ h121 => ih _ _ _ h121)
    | 2 =>
      refine Ks_eq (by rw [x_stringOf__51]) ?_
      exact Ks_ite (ih _ _ _ h) (Ks_ite (Ks_ite (Ks_ite (ih _ _ _ h) (Ks_no)) (Ks_no)) (ih _ _ _ h))
    | 3 =>
      refine Ks_eq (by rw [x_stringOf__51]) ?_
      exact ih _ _ _ h
    | 4 =>
      refine Ks_eq (by rw [x_stringOf__51]) ?_
      exact Ks_ite (Ks_no) (Ks_ite (ih _ _ _ h) (Ks_no))
    | 5 =>
      refine Ks_eq (by rw [x_stringOf__51]) ?_
      exact Ks_so h
    | b + 6 =>
      exact Ks_eq (by rw [x_stringOf__51]) Ks_no
theorem ks_tupleOf : ∀ (k b : Nat) (L : Nat → Int32) (σ : MS), ks w σ → Ks w (x_tupleOf k b L σ) := by
  intro k
  induction k with
  | zero => intro b L σ _; exact Ks_no
  | succ k ih =>
    intro b L σ h
    match b with
    | 0 =>
      refine Ks_eq (by rw [x_tupleOf]) ?_
      exact ih _ _ _ h
    | 1 =>
      refine Ks_eq (by rw [x_tupleOf]) ?_
      exact Ks_ite (ih _ _ _ h) (Ks_ite (Ks_ite (ih _ _ _ h) (ih _ _ _ h)) (Ks_no))
    | 2 =>
      refine Ks_eq (by rw [x_tupleOf]) ?_
      exact ih _ _ _ h
    | 3 =>
      refine Ks_eq (by rw [x_tupleOf]) ?_
      exact Ks_ob (ks_make _ _ _ _ h) (fun _ h122 => Ks_ite (ih _ _ _ h122) (Ks_so h122))
    | 4 =>
      refine Ks_eq (by rw [x_tupleOf]) ?_
      exact ih _ _ _ h
    | 5 =>
      refine Ks_eq (by rw [x_tupleOf]) ?_
      exact Ks_ite (ih _ _ _ h) (Ks_ite (Ks_ite (ih _ _ _ h) (Ks_no)) (Ks_no))
    | 6 =>
      refine Ks_eq (by rw [x_tupleOf]) ?_
      exact ih _ _ _ h
    | 7 =>
      refine Ks_eq (by rw [x_tupleOf]) ?_
      exact Ks_ob (ks_measured _ _ _ _ h) (fun _ h123 => Ks_so h123)
    | b + 8 =>
      exact Ks_eq (by rw [x_tupleOf]) Ks_no
theorem ks_reversed : ∀ (k b : Nat) (L : Nat → Int32) (σ : MS), ks w σ → Ks w (x_reversed k b L σ) := by
  intro k
  induction k with
  | zero => intro b L σ _; exact Ks_no
  | succ k ih =>
    intro b L σ h
    match b with
    | 0 =>
      refine Ks_eq (by rw [x_reversed]) ?_
      exact Ks_ob (ks_kind _ _ _ _ h) (fun _ h124 => Ks_ite (ih _ _ _ h124) (Ks_ite (ih _ _ _ h124) (Ks_ob (ks_wrongKind _ _ _ _ h124) (fun _ h125 => Ks_so h125))))
    | 1 =>
      refine Ks_eq (by rw [x_reversed]) ?_
      exact Ks_ite (Ks_ite (ih _ _ _ h) (ih _ _ _ h)) (Ks_no)
    | 2 =>
      refine Ks_eq (by rw [x_reversed]) ?_
      exact Ks_ite (ih _ _ _ h) (Ks_ite (Ks_ite (ih _ _ _ h) (Ks_no)) (Ks_no))
    | 3 =>
      refine Ks_eq (by rw [x_reversed]) ?_
      exact ih _ _ _ h
    | 4 =>
      refine Ks_eq (by rw [x_reversed]) ?_
      exact Ks_ob (ks_stringOf__51 _ _ _ _ h) (fun _ h126 => Ks_so h126)
    | 5 =>
      refine Ks_eq (by rw [x_reversed]) ?_
      exact ih _ _ _ h
    | 6 =>
      refine Ks_eq (by rw [x_reversed]) ?_
      exact Ks_ite (ih _ _ _ h) (Ks_ite (Ks_ob (ks_push _ _ _ _ h) (fun _ h127 => ih _ _ _ h127)) (Ks_no))
    | 7 =>
      refine Ks_eq (by rw [x_reversed]) ?_
      exact Ks_ob (ks_tupleOf _ _ _ _ h) (fun _ h128 => Ks_so h128)
    | b + 8 =>
      exact Ks_eq (by rw [x_reversed]) Ks_no
theorem ks_draw : ∀ (k b : Nat) (L : Nat → Int32) (σ : MS), ks w σ → Ks w (x_draw k b L σ) := by
  intro k
  induction k with
  | zero => intro b L σ _; exact Ks_no
  | succ k ih =>
    intro b L σ h
    match b with
    | 0 =>
      refine Ks_eq (by rw [x_draw]) ?_
      exact ih _ _ _ h
    | 1 =>
      refine Ks_eq (by rw [x_draw]) ?_
      exact Ks_ite (Ks_no) (Ks_so h)
    | b + 2 =>
      exact Ks_eq (by rw [x_draw]) Ks_no
theorem ks_memberAt : ∀ (k b : Nat) (L : Nat → Int32) (σ : MS), ks w σ → Ks w (x_memberAt k b L σ) := by
  intro k
  induction k with
  | zero => intro b L σ _; exact Ks_no
  | succ k ih =>
    intro b L σ h
    match b with
    | 0 =>
      refine Ks_eq (by rw [x_memberAt]) ?_
      exact Ks_ite (Ks_ite (Ks_ite (Ks_ob (ks_byteString _ _ _ _ h) (fun _ h129 => ih _ _ _ h129)) (Ks_no)) (ih _ _ _ h)) (Ks_no)
    | 1 =>
      refine Ks_eq (by rw [x_memberAt]) ?_
      exact Ks_ite (ih _ _ _ h) (Ks_no)
    | 2 =>
      refine Ks_eq (by rw [x_memberAt]) ?_
      exact Ks_so h
    | b + 3 =>
      exact Ks_eq (by rw [x_memberAt]) Ks_no
theorem ks_drawn : ∀ (k b : Nat) (L : Nat → Int32) (σ : MS), ks w σ → Ks w (x_drawn k b L σ) := by
  intro k
  induction k with
  | zero => intro b L σ _; exact Ks_no
  | succ k ih =>
    intro b L σ h
    match b with
    | 0 =>
      refine Ks_eq (by rw [x_drawn]) ?_
      exact Ks_ob (ks_kind _ _ _ _ h) (fun _ h130 => Ks_ite (Ks_ite (Ks_ite (ih _ _ _ h130) (ih _ _ _ h130)) (Ks_no)) (ih _ _ _ h130))
    | 1 =>
      refine Ks_eq (by rw [x_drawn]) ?_
      exact Ks_ob (ks_intOf _ _ _ _ _ h) (fun _ h131 => ih _ _ _ h131)
    | 2 =>
      refine Ks_eq (by rw [x_drawn]) ?_
      exact Ks_ite (Ks_ite (Ks_ob (ks_signOf _ _ _ _ h) (fun _ h132 => Ks_ite (ih _ _ _ h132) (Ks_ite (Ks_ite (Ks_ite (Ks_ite (ih _ _ _ h132) (ih _ _ _ h132)) (Ks_no)) (ih _ _ _ h132)) (Ks_no)))) (ih _ _ _ h)) (Ks_no)
    | 3 =>
      refine Ks_eq (by rw [x_drawn]) ?_
      exact ih _ _ _ h
    | 4 =>
      refine Ks_eq (by rw [x_drawn]) ?_
      exact Ks_ite (ih _ _ _ h) (Ks_ite (Ks_ite (ih _ _ _ h) (ih _ _ _ h)) (ih _ _ _ h))
    | 5 =>
      refine Ks_eq (by rw [x_drawn]) ?_
      exact Ks_ob (ks_fail _ _ _ _ h) (fun _ h133 => Ks_so h133)
    | 6 =>
      refine Ks_eq (by rw [x_drawn]) ?_
      exact Ks_ite (ih _ _ _ h) (ih _ _ _ h)
    | 7 =>
      refine Ks_eq (by rw [x_drawn]) ?_
      exact ih _ _ _ h
    | 8 =>
      refine Ks_eq (by rw [x_drawn]) ?_
      exact Ks_ob (ks_draw _ _ _ _ h) (fun _ h134 => Ks_ob (ks_small _ _ _ _ h134) (fun _ h135 => Ks_so h135))
    | 9 =>
      refine Ks_eq (by rw [x_drawn]) ?_
      exact Ks_ite (ih _ _ _ h) (Ks_ob (ks_wrongKind _ _ _ _ h) (fun _ h136 => Ks_so h136))
    | 10 =>
      refine Ks_eq (by rw [x_drawn]) ?_
      exact Ks_ite (Ks_ite (ih _ _ _ h) (ih _ _ _ h)) (Ks_no)
    | 11 =>
      refine Ks_eq (by rw [x_drawn]) ?_
      exact Ks_ite (Ks_ob (ks_draw _ _ _ _ h) (fun _ h137 => Ks_ob (ks_memberAt _ _ _ _ h137) (fun _ h138 => ih _ _ _ h138))) (Ks_no)
    | 12 =>
      refine Ks_eq (by rw [x_drawn]) ?_
      exact Ks_so h
    | b + 13 =>
      exact Ks_eq (by rw [x_drawn]) Ks_no
theorem ks_function : ∀ (k b : Nat) (L : Nat → Int32) (σ : MS), ks w σ → Ks w (x_function k b L σ) := by
  intro k
  induction k with
  | zero => intro b L σ _; exact Ks_no
  | succ k ih =>
    intro b L σ h
    match b with
    | 0 =>
      refine Ks_eq (by rw [x_function]) ?_
      exact Ks_ob (ks_kind _ _ _ _ h) (fun _ h139 => Ks_ite (ih _ _ _ h139) (Ks_ite (ih _ _ _ h139) (Ks_ite (ih _ _ _ h139) (Ks_ite (ih _ _ _ h139) (Ks_ite (ih _ _ _ h139) (Ks_ite (ih _ _ _ h139) (Ks_ite (ih _ _ _ h139) (Ks_ite (ih _ _ _ h139) (Ks_ite (ih _ _ _ h139) (Ks_ite (ih _ _ _ h139) (Ks_ite (ih _ _ _ h139) (Ks_ite (ih _ _ _ h139) (ih _ _ _ h139)))))))))))))
    | 1 =>
      refine Ks_eq (by rw [x_function]) ?_
      exact Ks_ite (ih _ _ _ h) (Ks_ob (ks_wrongKind _ _ _ _ h) (fun _ h140 => ih _ _ _ h140))
    | 2 =>
      refine Ks_eq (by rw [x_function]) ?_
      exact Ks_ob (ks_signOf _ _ _ _ h) (fun _ h141 => Ks_ite (ih _ _ _ h141) (Ks_ob (ks_other _ _ _ _ h141) (fun _ h142 => ih _ _ _ h142)))
    | 3 =>
      refine Ks_eq (by rw [x_function]) ?_
      exact ih _ _ _ h
    | 4 =>
      refine Ks_eq (by rw [x_function]) ?_
      exact Ks_so h
    | 5 =>
      refine Ks_eq (by rw [x_function]) ?_
      exact Ks_ite (ih _ _ _ h) (Ks_ob (ks_wrongKind _ _ _ _ h) (fun _ h143 => ih _ _ _ h143))
    | 6 =>
      refine Ks_eq (by rw [x_function]) ?_
      exact Ks_ite (Ks_ite (ih _ _ _ h) (ih _ _ _ h)) (Ks_no)
    | 7 =>
      refine Ks_eq (by rw [x_function]) ?_
      exact Ks_ite (ih _ _ _ h) (Ks_no)
    | 8 =>
      refine Ks_eq (by rw [x_function]) ?_
      exact Ks_so h
    | 9 =>
      refine Ks_eq (by rw [x_function]) ?_
      exact Ks_ob (ks_side _ _ _ _ h) (fun _ h144 => Ks_so h144)
    | 10 =>
      refine Ks_eq (by rw [x_function]) ?_
      exact Ks_ob (ks_side _ _ _ _ h) (fun _ h145 => Ks_so h145)
    | 11 =>
      refine Ks_eq (by rw [x_function]) ?_
      exact Ks_ob (ks_powerSet _ _ _ _ h) (fun _ h146 => Ks_so h146)
    | 12 =>
      refine Ks_eq (by rw [x_function]) ?_
      exact Ks_ob (ks_typeOf _ _ _ _ h) (fun _ h147 => Ks_so h147)
    | 13 =>
      refine Ks_eq (by rw [x_function]) ?_
      exact ih _ _ _ h
    | 14 =>
      refine Ks_eq (by rw [x_function]) ?_
      exact Ks_ob (ks_print _ _ _ _ h) (fun _ h148 => Ks_ob (ks_stringOf__48 _ _ _ _ h148) (fun _ h149 => Ks_so h149))
    | 15 =>
      refine Ks_eq (by rw [x_function]) ?_
      exact Ks_ob (ks_character _ _ _ _ h) (fun _ h150 => Ks_so h150)
    | 16 =>
      refine Ks_eq (by rw [x_function]) ?_
      exact Ks_ob (ks_codeOf _ _ _ _ h) (fun _ h151 => Ks_so h151)
    | 17 =>
      refine Ks_eq (by rw [x_function]) ?_
      exact Ks_ob (ks_reversed _ _ _ _ h) (fun _ h152 => Ks_so h152)
    | 18 =>
      refine Ks_eq (by rw [x_function]) ?_
      exact Ks_ob (ks_drawn _ _ _ _ h) (fun _ h153 => Ks_so h153)
    | b + 19 =>
      exact Ks_eq (by rw [x_function]) Ks_no
theorem ks_negative : ∀ (k b : Nat) (L : Nat → Int32) (σ : MS), ks w σ → Ks w (x_negative k b L σ) := by
  intro k
  induction k with
  | zero => intro b L σ _; exact Ks_no
  | succ k ih =>
    intro b L σ h
    match b with
    | 0 =>
      refine Ks_eq (by rw [x_negative]) ?_
      exact Ks_ob (ks_kind _ _ _ _ h) (fun _ h154 => Ks_ite (ih _ _ _ h154) (Ks_ob (ks_wrongKind _ _ _ _ h154) (fun _ h155 => ih _ _ _ h155)))
    | 1 =>
      refine Ks_eq (by rw [x_negative]) ?_
      exact Ks_ob (ks_other _ _ _ _ h) (fun _ h156 => ih _ _ _ h156)
    | 2 =>
      refine Ks_eq (by rw [x_negative]) ?_
      exact Ks_so h
    | b + 3 =>
      exact Ks_eq (by rw [x_negative]) Ks_no
theorem ks_many : ∀ (k b : Nat) (L : Nat → Int32) (σ : MS), ks w σ → Ks w (x_many k b L σ) := by
  intro k
  induction k with
  | zero => intro b L σ _; exact Ks_no
  | succ k ih =>
    intro b L σ h
    match b with
    | 0 =>
      refine Ks_eq (by rw [x_many]) ?_
      exact Ks_ob (ks_kind _ _ _ _ h) (fun _ h157 => Ks_ite (ih _ _ _ h157) (Ks_ob (ks_fail _ _ _ _ h157) (fun _ h158 => Ks_so h158)))
    | 1 =>
      refine Ks_eq (by rw [x_many]) ?_
      exact Ks_ite (Ks_ob (ks_small _ _ _ _ h) (fun _ h159 => Ks_so h159)) (Ks_no)
    | b + 2 =>
      exact Ks_eq (by rw [x_many]) Ks_no
theorem ks_truth : ∀ (k b : Nat) (L : Nat → Int32) (σ : MS), ks w σ → Ks w (x_truth k b L σ) := by
  intro k
  induction k with
  | zero => intro b L σ _; exact Ks_no
  | succ k ih =>
    intro b L σ h
    match b with
    | 0 =>
      refine Ks_eq (by rw [x_truth]) ?_
      exact Ks_ite (ih _ _ _ h) (ih _ _ _ h)
    | 1 =>
      refine Ks_eq (by rw [x_truth]) ?_
      exact ih _ _ _ h
    | 2 =>
      refine Ks_eq (by rw [x_truth]) ?_
      exact Ks_so h
    | b + 3 =>
      exact Ks_eq (by rw [x_truth]) Ks_no
theorem ks_turned : ∀ (k b : Nat) (L : Nat → Int32) (σ : MS), ks w σ → Ks w (x_turned k b L σ) := by
  intro k
  induction k with
  | zero => intro b L σ _; exact Ks_no
  | succ k ih =>
    intro b L σ h
    match b with
    | 0 =>
      refine Ks_eq (by rw [x_turned]) ?_
      exact Ks_ite (ih _ _ _ h) (Ks_ite (ih _ _ _ h) (Ks_ob (ks_fail _ _ _ _ h) (fun _ h160 => ih _ _ _ h160)))
    | 1 =>
      refine Ks_eq (by rw [x_turned]) ?_
      exact Ks_ite (ih _ _ _ h) (ih _ _ _ h)
    | 2 =>
      refine Ks_eq (by rw [x_turned]) ?_
      exact ih _ _ _ h
    | 3 =>
      refine Ks_eq (by rw [x_turned]) ?_
      exact Ks_ob (ks_truth _ _ _ _ h) (fun _ h161 => Ks_so h161)
    | b + 4 =>
      exact Ks_eq (by rw [x_turned]) Ks_no
theorem ks_loadB : ∀ (k b : Nat) (L : Nat → Int32) (σ : MS), ks w σ → Ks w (x_loadB k b L σ) := by
  intro k
  induction k with
  | zero => intro b L σ _; exact Ks_no
  | succ k ih =>
    intro b L σ h
    match b with
    | 0 =>
      refine Ks_eq (by rw [x_loadB]) ?_
      exact Ks_ite (ih _ _ _ h) (Ks_no)
    | 1 =>
      refine Ks_eq (by rw [x_loadB]) ?_
      exact ih _ _ _ h
    | 2 =>
      refine Ks_eq (by rw [x_loadB]) ?_
      exact Ks_ite (ih _ _ _ h) (Ks_ite (Ks_ite (ih _ _ _ h) (Ks_no)) (Ks_no))
    | 3 =>
      refine Ks_eq (by rw [x_loadB]) ?_
      exact ih _ _ _ h
    | 4 =>
      refine Ks_eq (by rw [x_loadB]) ?_
      exact Ks_so h
    | b + 5 =>
      exact Ks_eq (by rw [x_loadB]) Ks_no
theorem ks_compareRows__42__43 : ∀ (k b : Nat) (L : Nat → Int32) (σ : MS), ks w σ → Ks w (x_compareRows__42__43 k b L σ) := by
  intro k
  induction k with
  | zero => intro b L σ _; exact Ks_no
  | succ k ih =>
    intro b L σ h
    match b with
    | 0 =>
      refine Ks_eq (by rw [x_compareRows__42__43]) ?_
      exact ih _ _ _ h
    | 1 =>
      refine Ks_eq (by rw [x_compareRows__42__43]) ?_
      exact Ks_ite (ih _ _ _ h) (Ks_ite (Ks_ite (Ks_ite (ih _ _ _ h) (Ks_no)) (Ks_no)) (ih _ _ _ h))
    | 2 =>
      refine Ks_eq (by rw [x_compareRows__42__43]) ?_
      exact Ks_so h
    | b + 3 =>
      exact Ks_eq (by rw [x_compareRows__42__43]) Ks_no
theorem ks_add : ∀ (k b : Nat) (L : Nat → Int32) (σ : MS), ks w σ → Ks w (x_add k b L σ) := by
  intro k
  induction k with
  | zero => intro b L σ _; exact Ks_no
  | succ k ih =>
    intro b L σ h
    match b with
    | 0 =>
      refine Ks_eq (by rw [x_add]) ?_
      exact Ks_ob (ks_loadA _ _ _ _ h) (fun _ h162 => Ks_ob (ks_loadB _ _ _ _ h162) (fun _ h163 => Ks_ob (ks_signOf _ _ _ _ h163) (fun _ h164 => Ks_ob (ks_signOf _ _ _ _ h164) (fun _ h165 => Ks_ite (ih _ _ _ h165) (Ks_ite (ih _ _ _ h165) (Ks_ite (ih _ _ _ h165) (ih _ _ _ h165)))))))
    | 1 =>
      refine Ks_eq (by rw [x_add]) ?_
      exact Ks_ite (ih _ _ _ h) (ih _ _ _ h)
    | 2 =>
      refine Ks_eq (by rw [x_add]) ?_
      exact ih _ _ _ h
    | 3 =>
      refine Ks_eq (by rw [x_add]) ?_
      exact ih _ _ _ h
    | 4 =>
      refine Ks_eq (by rw [x_add]) ?_
      exact ih _ _ _ h
    | 5 =>
      refine Ks_eq (by rw [x_add]) ?_
      exact Ks_ite (ih _ _ _ h) (Ks_ite (ih _ _ _ h) (Ks_ite (ih _ _ _ h) (Ks_no)))
    | 6 =>
      refine Ks_eq (by rw [x_add]) ?_
      exact ih _ _ _ h
    | 7 =>
      refine Ks_eq (by rw [x_add]) ?_
      exact Ks_ite (ih _ _ _ h) (Ks_ite (ih _ _ _ h) (Ks_no))
    | 8 =>
      refine Ks_eq (by rw [x_add]) ?_
      exact ih _ _ _ h
    | 9 =>
      refine Ks_eq (by rw [x_add]) ?_
      exact Ks_ite (ih _ _ _ h) (Ks_no)
    | 10 =>
      refine Ks_eq (by rw [x_add]) ?_
      exact ih _ _ _ h
    | 11 =>
      refine Ks_eq (by rw [x_add]) ?_
      exact Ks_ite (ih _ _ _ h) (Ks_ite (ih _ _ _ h) (Ks_no))
    | 12 =>
      refine Ks_eq (by rw [x_add]) ?_
      exact ih _ _ _ h
    | 13 =>
      refine Ks_eq (by rw [x_add]) ?_
      exact Ks_ite (ih _ _ _ h) (ih _ _ _ h)
    | 14 =>
      refine Ks_eq (by rw [x_add]) ?_
      exact ih _ _ _ h
    | 15 =>
      refine Ks_eq (by rw [x_add]) ?_
      exact Ks_ob (ks_wholeOf _ _ _ _ h) (fun _ h166 => Ks_so h166)
    | 16 =>
      refine Ks_eq (by rw [x_add]) ?_
      exact Ks_ob (ks_compareRows__42__43 _ _ _ _ h) (fun _ h167 => Ks_ite (ih _ _ _ h167) (ih _ _ _ h167))
    | 17 =>
      refine Ks_eq (by rw [x_add]) ?_
      exact ih _ _ _ h
    | 18 =>
      refine Ks_eq (by rw [x_add]) ?_
      exact ih _ _ _ h
    | 19 =>
      refine Ks_eq (by rw [x_add]) ?_
      exact ih _ _ _ h
    | 20 =>
      refine Ks_eq (by rw [x_add]) ?_
      exact Ks_ite (ih _ _ _ h) (Ks_ite (ih _ _ _ h) (Ks_ite (ih _ _ _ h) (Ks_no)))
    | 21 =>
      refine Ks_eq (by rw [x_add]) ?_
      exact ih _ _ _ h
    | 22 =>
      refine Ks_eq (by rw [x_add]) ?_
      exact Ks_ite (ih _ _ _ h) (Ks_ite (ih _ _ _ h) (Ks_no))
    | 23 =>
      refine Ks_eq (by rw [x_add]) ?_
      exact ih _ _ _ h
    | 24 =>
      refine Ks_eq (by rw [x_add]) ?_
      exact Ks_ite (ih _ _ _ h) (ih _ _ _ h)
    | 25 =>
      refine Ks_eq (by rw [x_add]) ?_
      exact ih _ _ _ h
    | 26 =>
      refine Ks_eq (by rw [x_add]) ?_
      exact Ks_ite (ih _ _ _ h) (ih _ _ _ h)
    | 27 =>
      refine Ks_eq (by rw [x_add]) ?_
      exact ih _ _ _ h
    | 28 =>
      refine Ks_eq (by rw [x_add]) ?_
      exact Ks_ite (ih _ _ _ h) (Ks_no)
    | 29 =>
      refine Ks_eq (by rw [x_add]) ?_
      exact ih _ _ _ h
    | 30 =>
      refine Ks_eq (by rw [x_add]) ?_
      exact Ks_ite (ih _ _ _ h) (ih _ _ _ h)
    | 31 =>
      refine Ks_eq (by rw [x_add]) ?_
      exact ih _ _ _ h
    | 32 =>
      refine Ks_eq (by rw [x_add]) ?_
      exact Ks_ob (ks_wholeOf _ _ _ _ h) (fun _ h168 => Ks_so h168)
    | b + 33 =>
      exact Ks_eq (by rw [x_add]) Ks_no
theorem ks_joined : ∀ (k b : Nat) (L : Nat → Int32) (σ : MS), ks w σ → Ks w (x_joined k b L σ) := by
  intro k
  induction k with
  | zero => intro b L σ _; exact Ks_no
  | succ k ih =>
    intro b L σ h
    match b with
    | 0 =>
      refine Ks_eq (by rw [x_joined]) ?_
      exact Ks_ite (Ks_ite (ih _ _ _ h) (Ks_no)) (Ks_no)
    | 1 =>
      refine Ks_eq (by rw [x_joined]) ?_
      exact Ks_ite (ih _ _ _ h) (Ks_ite (Ks_ite (ih _ _ _ h) (Ks_no)) (Ks_no))
    | 2 =>
      refine Ks_eq (by rw [x_joined]) ?_
      exact ih _ _ _ h
    | 3 =>
      refine Ks_eq (by rw [x_joined]) ?_
      exact ih _ _ _ h
    | 4 =>
      refine Ks_eq (by rw [x_joined]) ?_
      exact Ks_ite (ih _ _ _ h) (Ks_ite (Ks_ite (ih _ _ _ h) (Ks_no)) (Ks_no))
    | 5 =>
      refine Ks_eq (by rw [x_joined]) ?_
      exact ih _ _ _ h
    | 6 =>
      refine Ks_eq (by rw [x_joined]) ?_
      exact Ks_ob (ks_stringOf__51 _ _ _ _ h) (fun _ h169 => Ks_so h169)
    | b + 7 =>
      exact Ks_eq (by rw [x_joined]) Ks_no
theorem ks_plus : ∀ (k b : Nat) (L : Nat → Int32) (σ : MS), ks w σ → Ks w (x_plus k b L σ) := by
  intro k
  induction k with
  | zero => intro b L σ _; exact Ks_no
  | succ k ih =>
    intro b L σ h
    match b with
    | 0 =>
      refine Ks_eq (by rw [x_plus]) ?_
      exact Ks_ob (ks_kind _ _ _ _ h) (fun _ h170 => Ks_ob (ks_kind _ _ _ _ h170) (fun _ h171 => Ks_ite (Ks_ite (ih _ _ _ h171) (Ks_ite (ih _ _ _ h171) (ih _ _ _ h171))) (ih _ _ _ h171)))
    | 1 =>
      refine Ks_eq (by rw [x_plus]) ?_
      exact Ks_ob (ks_wrongKind _ _ _ _ h) (fun _ h172 => Ks_so h172)
    | 2 =>
      refine Ks_eq (by rw [x_plus]) ?_
      exact Ks_ite (Ks_ob (ks_add _ _ _ _ h) (fun _ h173 => Ks_so h173)) (ih _ _ _ h)
    | 3 =>
      refine Ks_eq (by rw [x_plus]) ?_
      exact Ks_ite (Ks_ob (ks_joined _ _ _ _ h) (fun _ h174 => Ks_so h174)) (ih _ _ _ h)
    | 4 =>
      refine Ks_eq (by rw [x_plus]) ?_
      exact ih _ _ _ h
    | 5 =>
      refine Ks_eq (by rw [x_plus]) ?_
      exact Ks_ite (Ks_ite (ih _ _ _ h) (Ks_ite (Ks_ob (ks_push _ _ _ _ h) (fun _ h175 => ih _ _ _ h175)) (Ks_no))) (Ks_no)
    | 6 =>
      refine Ks_eq (by rw [x_plus]) ?_
      exact ih _ _ _ h
    | 7 =>
      refine Ks_eq (by rw [x_plus]) ?_
      exact Ks_ite (Ks_ite (ih _ _ _ h) (Ks_ite (Ks_ob (ks_push _ _ _ _ h) (fun _ h176 => ih _ _ _ h176)) (Ks_no))) (Ks_no)
    | 8 =>
      refine Ks_eq (by rw [x_plus]) ?_
      exact Ks_ite (Ks_ob (ks_setOf _ _ _ _ h) (fun _ h177 => ih _ _ _ h177)) (ih _ _ _ h)
    | 9 =>
      refine Ks_eq (by rw [x_plus]) ?_
      exact Ks_ob (ks_tupleOf _ _ _ _ h) (fun _ h178 => ih _ _ _ h178)
    | 10 =>
      refine Ks_eq (by rw [x_plus]) ?_
      exact Ks_so h
    | b + 11 =>
      exact Ks_eq (by rw [x_plus]) Ks_no
theorem ks_has : ∀ (k b : Nat) (L : Nat → Int32) (σ : MS), ks w σ → Ks w (x_has k b L σ) := by
  intro k
  induction k with
  | zero => intro b L σ _; exact Ks_no
  | succ k ih =>
    intro b L σ h
    match b with
    | 0 =>
      refine Ks_eq (by rw [x_has]) ?_
      exact Ks_ite (ih _ _ _ h) (Ks_no)
    | 1 =>
      refine Ks_eq (by rw [x_has]) ?_
      exact Ks_ite (ih _ _ _ h) (Ks_ite (Ks_no) (Ks_ite (Ks_ob (ks_compare _ _ _ _ h) (fun _ h179 => Ks_ite (Ks_so h179) (ih _ _ _ h179))) (Ks_no)))
    | 2 =>
      refine Ks_eq (by rw [x_has]) ?_
      exact Ks_ite (ih _ _ _ h) (ih _ _ _ h)
    | 3 =>
      refine Ks_eq (by rw [x_has]) ?_
      exact ih _ _ _ h
    | 4 =>
      refine Ks_eq (by rw [x_has]) ?_
      exact Ks_ite (ih _ _ _ h) (ih _ _ _ h)
    | 5 =>
      refine Ks_eq (by rw [x_has]) ?_
      exact ih _ _ _ h
    | 6 =>
      refine Ks_eq (by rw [x_has]) ?_
      exact ih _ _ _ h
    | 7 =>
      refine Ks_eq (by rw [x_has]) ?_
      exact Ks_so h
    | b + 8 =>
      exact Ks_eq (by rw [x_has]) Ks_no
theorem ks_sift : ∀ (k b : Nat) (L : Nat → Int32) (σ : MS), ks w σ → Ks w (x_sift k b L σ) := by
  intro k
  induction k with
  | zero => intro b L σ _; exact Ks_no
  | succ k ih =>
    intro b L σ h
    match b with
    | 0 =>
      refine Ks_eq (by rw [x_sift]) ?_
      exact ih _ _ _ h
    | 1 =>
      refine Ks_eq (by rw [x_sift]) ?_
      exact Ks_ite (Ks_ite (ih _ _ _ h) (Ks_ite (Ks_ob (ks_has _ _ _ _ h) (fun _ h180 => Ks_ite (Ks_ite (Ks_ob (ks_push _ _ _ _ h180) (fun _ h181 => ih _ _ _ h181)) (Ks_no)) (ih _ _ _ h180))) (Ks_no))) (Ks_no)
    | 2 =>
      refine Ks_eq (by rw [x_sift]) ?_
      exact ih _ _ _ h
    | 3 =>
      refine Ks_eq (by rw [x_sift]) ?_
      exact Ks_ob (ks_setOf _ _ _ _ h) (fun _ h182 => Ks_so h182)
    | b + 4 =>
      exact Ks_eq (by rw [x_sift]) Ks_no
theorem ks_multiply : ∀ (k b : Nat) (L : Nat → Int32) (J : Nat → Int64) (σ : MS), ks w σ → Ks w (x_multiply k b L J σ) := by
  intro k
  induction k with
  | zero => intro b L J σ _; exact Ks_no
  | succ k ih =>
    intro b L J σ h
    match b with
    | 0 =>
      refine Ks_eq (by rw [x_multiply]) ?_
      exact Ks_ob (ks_loadA _ _ _ _ h) (fun _ h183 => Ks_ob (ks_loadB _ _ _ _ h183) (fun _ h184 => ih _ _ _ _ h184))
    | 1 =>
      refine Ks_eq (by rw [x_multiply]) ?_
      exact ih _ _ _ _ h
    | 2 =>
      refine Ks_eq (by rw [x_multiply]) ?_
      exact Ks_ite (ih _ _ _ _ h) (Ks_ite (ih _ _ _ _ h) (Ks_no))
    | 3 =>
      refine Ks_eq (by rw [x_multiply]) ?_
      exact ih _ _ _ _ h
    | 4 =>
      refine Ks_eq (by rw [x_multiply]) ?_
      exact ih _ _ _ _ h
    | 5 =>
      refine Ks_eq (by rw [x_multiply]) ?_
      exact Ks_ite (ih _ _ _ _ h) (ih _ _ _ _ h)
    | 6 =>
      refine Ks_eq (by rw [x_multiply]) ?_
      exact Ks_ite (ih _ _ _ _ h) (Ks_ite (Ks_ite (Ks_ite (Ks_ite (ih _ _ _ _ h) (Ks_no)) (Ks_no)) (Ks_no)) (Ks_no))
    | 7 =>
      refine Ks_eq (by rw [x_multiply]) ?_
      exact ih _ _ _ _ h
    | 8 =>
      refine Ks_eq (by rw [x_multiply]) ?_
      exact Ks_ite (ih _ _ _ _ h) (Ks_no)
    | 9 =>
      refine Ks_eq (by rw [x_multiply]) ?_
      exact ih _ _ _ _ h
    | 10 =>
      refine Ks_eq (by rw [x_multiply]) ?_
      exact Ks_ob (ks_signOf _ _ _ _ h) (fun _ h185 => Ks_ob (ks_signOf _ _ _ _ h185) (fun _ h186 => Ks_ob (ks_wholeOf _ _ _ _ h186) (fun _ h187 => Ks_so h187)))
    | b + 11 =>
      exact Ks_eq (by rw [x_multiply]) Ks_no
theorem ks_repeat : ∀ (k b : Nat) (L : Nat → Int32) (σ : MS), ks w σ → Ks w (x_repeat k b L σ) := by
  intro k
  induction k with
  | zero => intro b L σ _; exact Ks_no
  | succ k ih =>
    intro b L σ h
    match b with
    | 0 =>
      refine Ks_eq (by rw [x_repeat]) ?_
      exact Ks_ob (ks_signOf _ _ _ _ h) (fun _ h188 => Ks_ite (ih _ _ _ h188) (Ks_ob (ks_fail _ _ _ _ h188) (fun _ h189 => Ks_so h189)))
    | 1 =>
      refine Ks_eq (by rw [x_repeat]) ?_
      exact Ks_ite (Ks_ite (ih _ _ _ h) (ih _ _ _ h)) (Ks_no)
    | 2 =>
      refine Ks_eq (by rw [x_repeat]) ?_
      exact Ks_ob (ks_intOf _ _ _ _ _ h) (fun _ h190 => ih _ _ _ h190)
    | 3 =>
      refine Ks_eq (by rw [x_repeat]) ?_
      exact Ks_ite (ih _ _ _ h) (Ks_ob (ks_fail _ _ _ _ h) (fun _ h191 => Ks_so h191))
    | 4 =>
      refine Ks_eq (by rw [x_repeat]) ?_
      exact Ks_ite (Ks_ite (ih _ _ _ h) (ih _ _ _ h)) (Ks_no)
    | 5 =>
      refine Ks_eq (by rw [x_repeat]) ?_
      exact Ks_ite (ih _ _ _ h) (Ks_ite (Ks_no) (Ks_ite (Ks_ite (ih _ _ _ h) (Ks_no)) (Ks_no)))
    | 6 =>
      refine Ks_eq (by rw [x_repeat]) ?_
      exact ih _ _ _ h
    | 7 =>
      refine Ks_eq (by rw [x_repeat]) ?_
      exact Ks_ob (ks_stringOf__51 _ _ _ _ h) (fun _ h192 => Ks_so h192)
    | 8 =>
      refine Ks_eq (by rw [x_repeat]) ?_
      exact ih _ _ _ h
    | 9 =>
      refine Ks_eq (by rw [x_repeat]) ?_
      exact Ks_ite (ih _ _ _ h) (Ks_ite (Ks_no) (Ks_ite (Ks_ob (ks_push _ _ _ _ h) (fun _ h193 => ih _ _ _ h193)) (Ks_no)))
    | 10 =>
      refine Ks_eq (by rw [x_repeat]) ?_
      exact Ks_ob (ks_tupleOf _ _ _ _ h) (fun _ h194 => Ks_so h194)
    | b + 11 =>
      exact Ks_eq (by rw [x_repeat]) Ks_no
theorem ks_rowsTimes : ∀ (k b : Nat) (L : Nat → Int32) (J : Nat → Int64) (σ : MS), ks w σ → Ks w (x_rowsTimes k b L J σ) := by
  intro k
  induction k with
  | zero => intro b L J σ _; exact Ks_no
  | succ k ih =>
    intro b L J σ h
    match b with
    | 0 =>
      refine Ks_eq (by rw [x_rowsTimes]) ?_
      exact ih _ _ _ _ h
    | 1 =>
      refine Ks_eq (by rw [x_rowsTimes]) ?_
      exact ih _ _ _ _ h
    | 2 =>
      refine Ks_eq (by rw [x_rowsTimes]) ?_
      exact Ks_ite (ih _ _ _ _ h) (Ks_ite (ih _ _ _ _ h) (Ks_no))
    | 3 =>
      refine Ks_eq (by rw [x_rowsTimes]) ?_
      exact ih _ _ _ _ h
    | 4 =>
      refine Ks_eq (by rw [x_rowsTimes]) ?_
      exact ih _ _ _ _ h
    | 5 =>
      refine Ks_eq (by rw [x_rowsTimes]) ?_
      exact Ks_ite (ih _ _ _ _ h) (ih _ _ _ _ h)
    | 6 =>
      refine Ks_eq (by rw [x_rowsTimes]) ?_
      exact Ks_ite (ih _ _ _ _ h) (Ks_ite (Ks_ite (Ks_ite (Ks_ite (ih _ _ _ _ h) (Ks_no)) (Ks_no)) (Ks_no)) (Ks_no))
    | 7 =>
      refine Ks_eq (by rw [x_rowsTimes]) ?_
      exact ih _ _ _ _ h
    | 8 =>
      refine Ks_eq (by rw [x_rowsTimes]) ?_
      exact Ks_ite (ih _ _ _ _ h) (Ks_no)
    | 9 =>
      refine Ks_eq (by rw [x_rowsTimes]) ?_
      exact ih _ _ _ _ h
    | 10 =>
      refine Ks_eq (by rw [x_rowsTimes]) ?_
      exact Ks_ite (ih _ _ _ _ h) (Ks_ite (Ks_ite (ih _ _ _ _ h) (ih _ _ _ _ h)) (Ks_no))
    | 11 =>
      refine Ks_eq (by rw [x_rowsTimes]) ?_
      exact Ks_so h
    | b + 12 =>
      exact Ks_eq (by rw [x_rowsTimes]) Ks_no
theorem ks_raise : ∀ (k b : Nat) (L : Nat → Int32) (σ : MS), ks w σ → Ks w (x_raise k b L σ) := by
  intro k
  induction k with
  | zero => intro b L σ _; exact Ks_no
  | succ k ih =>
    intro b L σ h
    match b with
    | 0 =>
      refine Ks_eq (by rw [x_raise]) ?_
      exact Ks_ob (ks_signOf _ _ _ _ h) (fun _ h195 => Ks_ite (ih _ _ _ h195) (Ks_ob (ks_fail _ _ _ _ h195) (fun _ h196 => Ks_so h196)))
    | 1 =>
      refine Ks_eq (by rw [x_raise]) ?_
      exact Ks_ob (ks_intOf _ _ _ _ _ h) (fun _ h197 => Ks_ite (Ks_ob (ks_small _ _ _ _ h197) (fun _ h198 => Ks_so h198)) (ih _ _ _ h197))
    | 2 =>
      refine Ks_eq (by rw [x_raise]) ?_
      exact Ks_ite (Ks_ite (ih _ _ _ h) (Ks_ite (Ks_ite (ih _ _ _ h) (ih _ _ _ h)) (Ks_no))) (Ks_no)
    | 3 =>
      refine Ks_eq (by rw [x_raise]) ?_
      exact ih _ _ _ h
    | 4 =>
      refine Ks_eq (by rw [x_raise]) ?_
      exact Ks_ite (Ks_ite (ih _ _ _ h) (Ks_ite (Ks_ite (Ks_ite (Ks_ite (ih _ _ _ h) (ih _ _ _ h)) (Ks_no)) (ih _ _ _ h)) (Ks_no))) (Ks_no)
    | 5 =>
      refine Ks_eq (by rw [x_raise]) ?_
      exact Ks_ob (ks_signOf _ _ _ _ h) (fun _ h199 => Ks_ite (ih _ _ _ h199) (Ks_ite (ih _ _ _ h199) (ih _ _ _ h199)))
    | 6 =>
      refine Ks_eq (by rw [x_raise]) ?_
      exact ih _ _ _ h
    | 7 =>
      refine Ks_eq (by rw [x_raise]) ?_
      exact Ks_ob (ks_small _ _ _ _ h) (fun _ h200 => ih _ _ _ h200)
    | 8 =>
      refine Ks_eq (by rw [x_raise]) ?_
      exact Ks_so h
    | 9 =>
      refine Ks_eq (by rw [x_raise]) ?_
      exact Ks_ob (ks_loadA _ _ _ _ h) (fun _ h201 => ih _ _ _ h201)
    | 10 =>
      refine Ks_eq (by rw [x_raise]) ?_
      exact Ks_ite (ih _ _ _ h) (Ks_ite (Ks_ite (ih _ _ _ h) (Ks_no)) (Ks_no))
    | 11 =>
      refine Ks_eq (by rw [x_raise]) ?_
      exact ih _ _ _ h
    | 12 =>
      refine Ks_eq (by rw [x_raise]) ?_
      exact ih _ _ _ h
    | 13 =>
      refine Ks_eq (by rw [x_raise]) ?_
      exact Ks_ite (ih _ _ _ h) (Ks_ite (Ks_ob (ks_rowsTimes _ _ _ _ _ h) (fun _ h202 => Ks_ite (ih _ _ _ h202) (Ks_ob (ks_fail _ _ _ _ h202) (fun _ h203 => ih _ _ _ h203)))) (ih _ _ _ h))
    | 14 =>
      refine Ks_eq (by rw [x_raise]) ?_
      exact ih _ _ _ h
    | 15 =>
      refine Ks_eq (by rw [x_raise]) ?_
      exact Ks_ite (ih _ _ _ h) (Ks_ite (Ks_ite (ih _ _ _ h) (Ks_no)) (Ks_no))
    | 16 =>
      refine Ks_eq (by rw [x_raise]) ?_
      exact ih _ _ _ h
    | 17 =>
      refine Ks_eq (by rw [x_raise]) ?_
      exact ih _ _ _ h
    | 18 =>
      refine Ks_eq (by rw [x_raise]) ?_
      exact Ks_ite (ih _ _ _ h) (Ks_so h)
    | 19 =>
      refine Ks_eq (by rw [x_raise]) ?_
      exact ih _ _ _ h
    | 20 =>
      refine Ks_eq (by rw [x_raise]) ?_
      exact ih _ _ _ h
    | 21 =>
      refine Ks_eq (by rw [x_raise]) ?_
      exact Ks_ite (ih _ _ _ h) (Ks_ite (Ks_ite (ih _ _ _ h) (Ks_no)) (Ks_no))
    | 22 =>
      refine Ks_eq (by rw [x_raise]) ?_
      exact ih _ _ _ h
    | 23 =>
      refine Ks_eq (by rw [x_raise]) ?_
      exact Ks_ob (ks_signOf _ _ _ _ h) (fun _ h204 => Ks_ite (ih _ _ _ h204) (Ks_ite (ih _ _ _ h204) (ih _ _ _ h204)))
    | 24 =>
      refine Ks_eq (by rw [x_raise]) ?_
      exact ih _ _ _ h
    | 25 =>
      refine Ks_eq (by rw [x_raise]) ?_
      exact Ks_ob (ks_wholeOf _ _ _ _ h) (fun _ h205 => Ks_so h205)
    | b + 26 =>
      exact Ks_eq (by rw [x_raise]) Ks_no
theorem ks_compareRows__46__43 : ∀ (k b : Nat) (L : Nat → Int32) (σ : MS), ks w σ → Ks w (x_compareRows__46__43 k b L σ) := by
  intro k
  induction k with
  | zero => intro b L σ _; exact Ks_no
  | succ k ih =>
    intro b L σ h
    match b with
    | 0 =>
      refine Ks_eq (by rw [x_compareRows__46__43]) ?_
      exact ih _ _ _ h
    | 1 =>
      refine Ks_eq (by rw [x_compareRows__46__43]) ?_
      exact Ks_ite (ih _ _ _ h) (Ks_ite (Ks_ite (Ks_ite (ih _ _ _ h) (Ks_no)) (Ks_no)) (ih _ _ _ h))
    | 2 =>
      refine Ks_eq (by rw [x_compareRows__46__43]) ?_
      exact Ks_so h
    | b + 3 =>
      exact Ks_eq (by rw [x_compareRows__46__43]) Ks_no
theorem ks_divideRows : ∀ (k b : Nat) (L : Nat → Int32) (σ : MS), ks w σ → Ks w (x_divideRows k b L σ) := by
  intro k
  induction k with
  | zero => intro b L σ _; exact Ks_no
  | succ k ih =>
    intro b L σ h
    match b with
    | 0 =>
      refine Ks_eq (by rw [x_divideRows]) ?_
      exact ih _ _ _ h
    | 1 =>
      refine Ks_eq (by rw [x_divideRows]) ?_
      exact ih _ _ _ h
    | 2 =>
      refine Ks_eq (by rw [x_divideRows]) ?_
      exact ih _ _ _ h
    | 3 =>
      refine Ks_eq (by rw [x_divideRows]) ?_
      exact Ks_ite (ih _ _ _ h) (Ks_ite (ih _ _ _ h) (Ks_no))
    | 4 =>
      refine Ks_eq (by rw [x_divideRows]) ?_
      exact ih _ _ _ h
    | 5 =>
      refine Ks_eq (by rw [x_divideRows]) ?_
      exact ih _ _ _ h
    | 6 =>
      refine Ks_eq (by rw [x_divideRows]) ?_
      exact Ks_ite (ih _ _ _ h) (Ks_ite (ih _ _ _ h) (Ks_no))
    | 7 =>
      refine Ks_eq (by rw [x_divideRows]) ?_
      exact Ks_ite (ih _ _ _ h) (Ks_ite (Ks_ite (ih _ _ _ h) (Ks_no)) (Ks_no))
    | 8 =>
      refine Ks_eq (by rw [x_divideRows]) ?_
      exact ih _ _ _ h
    | 9 =>
      refine Ks_eq (by rw [x_divideRows]) ?_
      exact Ks_ite (ih _ _ _ h) (Ks_ite (ih _ _ _ h) (Ks_no))
    | 10 =>
      refine Ks_eq (by rw [x_divideRows]) ?_
      exact ih _ _ _ h
    | 11 =>
      refine Ks_eq (by rw [x_divideRows]) ?_
      exact Ks_ob (ks_compareRows__46__43 _ _ _ _ h) (fun _ h206 => Ks_ite (ih _ _ _ h206) (ih _ _ _ h206))
    | 12 =>
      refine Ks_eq (by rw [x_divideRows]) ?_
      exact Ks_ite (ih _ _ _ h) (Ks_ite (Ks_ite (ih _ _ _ h) (Ks_ite (ih _ _ _ h) (Ks_no))) (Ks_no))
    | 13 =>
      refine Ks_eq (by rw [x_divideRows]) ?_
      exact ih _ _ _ h
    | 14 =>
      refine Ks_eq (by rw [x_divideRows]) ?_
      exact Ks_ite (ih _ _ _ h) (ih _ _ _ h)
    | 15 =>
      refine Ks_eq (by rw [x_divideRows]) ?_
      exact ih _ _ _ h
    | 16 =>
      refine Ks_eq (by rw [x_divideRows]) ?_
      exact Ks_ite (ih _ _ _ h) (Ks_no)
    | 17 =>
      refine Ks_eq (by rw [x_divideRows]) ?_
      exact ih _ _ _ h
    | 18 =>
      refine Ks_eq (by rw [x_divideRows]) ?_
      exact Ks_ite (ih _ _ _ h) (Ks_ite (Ks_ite (ih _ _ _ h) (ih _ _ _ h)) (Ks_no))
    | 19 =>
      refine Ks_eq (by rw [x_divideRows]) ?_
      exact Ks_ite (Ks_ite (ih _ _ _ h) (Ks_no)) (Ks_no)
    | 20 =>
      refine Ks_eq (by rw [x_divideRows]) ?_
      exact ih _ _ _ h
    | 21 =>
      refine Ks_eq (by rw [x_divideRows]) ?_
      exact Ks_so h
    | b + 22 =>
      exact Ks_eq (by rw [x_divideRows]) Ks_no
theorem ks_divide : ∀ (k b : Nat) (L : Nat → Int32) (σ : MS), ks w σ → Ks w (x_divide k b L σ) := by
  intro k
  induction k with
  | zero => intro b L σ _; exact Ks_no
  | succ k ih =>
    intro b L σ h
    match b with
    | 0 =>
      refine Ks_eq (by rw [x_divide]) ?_
      exact Ks_ob (ks_signOf _ _ _ _ h) (fun _ h207 => Ks_ite (Ks_ob (ks_fail _ _ _ _ h207) (fun _ h208 => Ks_so h208)) (ih _ _ _ h207))
    | 1 =>
      refine Ks_eq (by rw [x_divide]) ?_
      exact Ks_ob (ks_loadA _ _ _ _ h) (fun _ h209 => Ks_ob (ks_loadB _ _ _ _ h209) (fun _ h210 => Ks_ob (ks_divideRows _ _ _ _ h210) (fun _ h211 => Ks_ob (ks_signOf _ _ _ _ h211) (fun _ h212 => Ks_ite (ih _ _ _ h212) (Ks_ite (ih _ _ _ h212) (ih _ _ _ h212))))))
    | 2 =>
      refine Ks_eq (by rw [x_divide]) ?_
      exact ih _ _ _ h
    | 3 =>
      refine Ks_eq (by rw [x_divide]) ?_
      exact Ks_ite (ih _ _ _ h) (Ks_ite (ih _ _ _ h) (ih _ _ _ h))
    | 4 =>
      refine Ks_eq (by rw [x_divide]) ?_
      exact ih _ _ _ h
    | 5 =>
      refine Ks_eq (by rw [x_divide]) ?_
      exact ih _ _ _ h
    | 6 =>
      refine Ks_eq (by rw [x_divide]) ?_
      exact ih _ _ _ h
    | 7 =>
      refine Ks_eq (by rw [x_divide]) ?_
      exact Ks_ite (ih _ _ _ h) (Ks_ite (ih _ _ _ h) (Ks_ite (ih _ _ _ h) (Ks_no)))
    | 8 =>
      refine Ks_eq (by rw [x_divide]) ?_
      exact ih _ _ _ h
    | 9 =>
      refine Ks_eq (by rw [x_divide]) ?_
      exact Ks_ite (ih _ _ _ h) (Ks_ite (ih _ _ _ h) (Ks_no))
    | 10 =>
      refine Ks_eq (by rw [x_divide]) ?_
      exact ih _ _ _ h
    | 11 =>
      refine Ks_eq (by rw [x_divide]) ?_
      exact Ks_ite (ih _ _ _ h) (Ks_ite (ih _ _ _ h) (ih _ _ _ h))
    | 12 =>
      refine Ks_eq (by rw [x_divide]) ?_
      exact ih _ _ _ h
    | 13 =>
      refine Ks_eq (by rw [x_divide]) ?_
      exact Ks_ite (ih _ _ _ h) (Ks_no)
    | 14 =>
      refine Ks_eq (by rw [x_divide]) ?_
      exact ih _ _ _ h
    | 15 =>
      refine Ks_eq (by rw [x_divide]) ?_
      exact Ks_ob (ks_wholeOf _ _ _ _ h) (fun _ h213 => Ks_so h213)
    | 16 =>
      refine Ks_eq (by rw [x_divide]) ?_
      exact ih _ _ _ h
    | 17 =>
      refine Ks_eq (by rw [x_divide]) ?_
      exact Ks_ite (ih _ _ _ h) (ih _ _ _ h)
    | 18 =>
      refine Ks_eq (by rw [x_divide]) ?_
      exact ih _ _ _ h
    | 19 =>
      refine Ks_eq (by rw [x_divide]) ?_
      exact ih _ _ _ h
    | 20 =>
      refine Ks_eq (by rw [x_divide]) ?_
      exact Ks_ite (ih _ _ _ h) (Ks_ite (Ks_ite (ih _ _ _ h) (Ks_no)) (Ks_no))
    | 21 =>
      refine Ks_eq (by rw [x_divide]) ?_
      exact ih _ _ _ h
    | 22 =>
      refine Ks_eq (by rw [x_divide]) ?_
      exact Ks_ite (ih _ _ _ h) (Ks_ite (ih _ _ _ h) (Ks_no))
    | 23 =>
      refine Ks_eq (by rw [x_divide]) ?_
      exact ih _ _ _ h
    | 24 =>
      refine Ks_eq (by rw [x_divide]) ?_
      exact Ks_ob (ks_signOf _ _ _ _ h) (fun _ h214 => Ks_ob (ks_signOf _ _ _ _ h214) (fun _ h215 => Ks_ob (ks_wholeOf _ _ _ _ h215) (fun _ h216 => Ks_so h216)))
    | b + 25 =>
      exact Ks_eq (by rw [x_divide]) Ks_no
theorem ks_isIn : ∀ (k b : Nat) (L : Nat → Int32) (σ : MS), ks w σ → Ks w (x_isIn k b L σ) := by
  intro k
  induction k with
  | zero => intro b L σ _; exact Ks_no
  | succ k ih =>
    intro b L σ h
    match b with
    | 0 =>
      refine Ks_eq (by rw [x_isIn]) ?_
      exact Ks_ob (ks_kind _ _ _ _ h) (fun _ h217 => Ks_ite (Ks_ite (ih _ _ _ h217) (Ks_ob (ks_has _ _ _ _ h217) (fun _ h218 => Ks_ite (ih _ _ _ h218) (ih _ _ _ h218)))) (ih _ _ _ h217))
    | 1 =>
      refine Ks_eq (by rw [x_isIn]) ?_
      exact ih _ _ _ h
    | 2 =>
      refine Ks_eq (by rw [x_isIn]) ?_
      exact Ks_ob (ks_truth _ _ _ _ h) (fun _ h219 => Ks_so h219)
    | 3 =>
      refine Ks_eq (by rw [x_isIn]) ?_
      exact Ks_ite (ih _ _ _ h) (ih _ _ _ h)
    | 4 =>
      refine Ks_eq (by rw [x_isIn]) ?_
      exact Ks_ite (Ks_ite (ih _ _ _ h) (Ks_ite (ih _ _ _ h) (Ks_ite (Ks_ite (Ks_ob (ks_compare _ _ _ _ h) (fun _ h220 => Ks_ite (ih _ _ _ h220) (ih _ _ _ h220))) (Ks_no)) (ih _ _ _ h)))) (Ks_no)
    | 5 =>
      refine Ks_eq (by rw [x_isIn]) ?_
      exact ih _ _ _ h
    | 6 =>
      refine Ks_eq (by rw [x_isIn]) ?_
      exact ih _ _ _ h
    | 7 =>
      refine Ks_eq (by rw [x_isIn]) ?_
      exact ih _ _ _ h
    | 8 =>
      refine Ks_eq (by rw [x_isIn]) ?_
      exact Ks_ob (ks_truth _ _ _ _ h) (fun _ h221 => Ks_so h221)
    | 9 =>
      refine Ks_eq (by rw [x_isIn]) ?_
      exact Ks_ite (Ks_ob (ks_kind _ _ _ _ h) (fun _ h222 => Ks_ite (ih _ _ _ h222) (ih _ _ _ h222))) (ih _ _ _ h)
    | 10 =>
      refine Ks_eq (by rw [x_isIn]) ?_
      exact Ks_ob (ks_wrongKind _ _ _ _ h) (fun _ h223 => Ks_so h223)
    | 11 =>
      refine Ks_eq (by rw [x_isIn]) ?_
      exact ih _ _ _ h
    | 12 =>
      refine Ks_eq (by rw [x_isIn]) ?_
      exact Ks_ite (Ks_ite (Ks_ite (ih _ _ _ h) (Ks_ite (ih _ _ _ h) (ih _ _ _ h))) (Ks_no)) (Ks_no)
    | 13 =>
      refine Ks_eq (by rw [x_isIn]) ?_
      exact Ks_ite (Ks_ite (ih _ _ _ h) (Ks_ite (ih _ _ _ h) (Ks_ite (Ks_ite (Ks_ite (ih _ _ _ h) (ih _ _ _ h)) (Ks_no)) (Ks_no)))) (Ks_no)
    | 14 =>
      refine Ks_eq (by rw [x_isIn]) ?_
      exact ih _ _ _ h
    | 15 =>
      refine Ks_eq (by rw [x_isIn]) ?_
      exact ih _ _ _ h
    | 16 =>
      refine Ks_eq (by rw [x_isIn]) ?_
      exact ih _ _ _ h
    | 17 =>
      refine Ks_eq (by rw [x_isIn]) ?_
      exact Ks_ob (ks_truth _ _ _ _ h) (fun _ h224 => Ks_so h224)
    | b + 18 =>
      exact Ks_eq (by rw [x_isIn]) Ks_no
theorem ks_isSubset : ∀ (k b : Nat) (L : Nat → Int32) (σ : MS), ks w σ → Ks w (x_isSubset k b L σ) := by
  intro k
  induction k with
  | zero => intro b L σ _; exact Ks_no
  | succ k ih =>
    intro b L σ h
    match b with
    | 0 =>
      refine Ks_eq (by rw [x_isSubset]) ?_
      exact ih _ _ _ h
    | 1 =>
      refine Ks_eq (by rw [x_isSubset]) ?_
      exact Ks_ite (Ks_ite (ih _ _ _ h) (Ks_ite (ih _ _ _ h) (Ks_ite (Ks_ob (ks_has _ _ _ _ h) (fun _ h225 => ih _ _ _ h225)) (Ks_no)))) (Ks_no)
    | 2 =>
      refine Ks_eq (by rw [x_isSubset]) ?_
      exact Ks_ite (Ks_so h) (Ks_no)
    | b + 3 =>
      exact Ks_eq (by rw [x_isSubset]) Ks_no
theorem ks_operate : ∀ (k b : Nat) (L : Nat → Int32) (σ : MS), ks w σ → Ks w (x_operate k b L σ) := by
  intro k
  induction k with
  | zero => intro b L σ _; exact Ks_no
  | succ k ih =>
    intro b L σ h
    match b with
    | 0 =>
      refine Ks_eq (by rw [x_operate]) ?_
      exact Ks_ob (ks_kind _ _ _ _ h) (fun _ h226 => Ks_ob (ks_kind _ _ _ _ h226) (fun _ h227 => Ks_ite (Ks_ite (ih _ _ _ h227) (ih _ _ _ h227)) (ih _ _ _ h227)))
    | 1 =>
      refine Ks_eq (by rw [x_operate]) ?_
      exact ih _ _ _ h
    | 2 =>
      refine Ks_eq (by rw [x_operate]) ?_
      exact Ks_ite (ih _ _ _ h) (Ks_ite (ih _ _ _ h) (Ks_ite (ih _ _ _ h) (Ks_ite (ih _ _ _ h) (Ks_ite (ih _ _ _ h) (Ks_ite (ih _ _ _ h) (Ks_ite (ih _ _ _ h) (Ks_ite (ih _ _ _ h) (Ks_ite (ih _ _ _ h) (Ks_ite (ih _ _ _ h) (Ks_ite (ih _ _ _ h) (ih _ _ _ h)))))))))))
    | 3 =>
      refine Ks_eq (by rw [x_operate]) ?_
      exact Ks_ob (ks_plus _ _ _ _ h) (fun _ h228 => Ks_so h228)
    | 4 =>
      refine Ks_eq (by rw [x_operate]) ?_
      exact Ks_ite (ih _ _ _ h) (Ks_ob (ks_add _ _ _ _ h) (fun _ h229 => Ks_so h229))
    | 5 =>
      refine Ks_eq (by rw [x_operate]) ?_
      exact Ks_ite (Ks_ite (Ks_ob (ks_sift _ _ _ _ h) (fun _ h230 => ih _ _ _ h230)) (ih _ _ _ h)) (ih _ _ _ h)
    | 6 =>
      refine Ks_eq (by rw [x_operate]) ?_
      exact Ks_ob (ks_wrongKind _ _ _ _ h) (fun _ h231 => ih _ _ _ h231)
    | 7 =>
      refine Ks_eq (by rw [x_operate]) ?_
      exact Ks_so h
    | 8 =>
      refine Ks_eq (by rw [x_operate]) ?_
      exact Ks_ite (ih _ _ _ h) (Ks_ob (ks_multiply _ _ _ _ _ h) (fun _ h232 => Ks_so h232))
    | 9 =>
      refine Ks_eq (by rw [x_operate]) ?_
      exact Ks_ite (Ks_ite (Ks_ob (ks_sift _ _ _ _ h) (fun _ h233 => Ks_so h233)) (ih _ _ _ h)) (ih _ _ _ h)
    | 10 =>
      refine Ks_eq (by rw [x_operate]) ?_
      exact Ks_ite (ih _ _ _ h) (Ks_ite (ih _ _ _ h) (ih _ _ _ h))
    | 11 =>
      refine Ks_eq (by rw [x_operate]) ?_
      exact Ks_ite (Ks_ob (ks_repeat _ _ _ _ h) (fun _ h234 => ih _ _ _ h234)) (ih _ _ _ h)
    | 12 =>
      refine Ks_eq (by rw [x_operate]) ?_
      exact Ks_ob (ks_wrongKind _ _ _ _ h) (fun _ h235 => ih _ _ _ h235)
    | 13 =>
      refine Ks_eq (by rw [x_operate]) ?_
      exact Ks_so h
    | 14 =>
      refine Ks_eq (by rw [x_operate]) ?_
      exact Ks_ite (ih _ _ _ h) (Ks_ob (ks_raise _ _ _ _ h) (fun _ h236 => ih _ _ _ h236))
    | 15 =>
      refine Ks_eq (by rw [x_operate]) ?_
      exact Ks_ob (ks_wrongKind _ _ _ _ h) (fun _ h237 => ih _ _ _ h237)
    | 16 =>
      refine Ks_eq (by rw [x_operate]) ?_
      exact Ks_so h
    | 17 =>
      refine Ks_eq (by rw [x_operate]) ?_
      exact Ks_ob (ks_compare _ _ _ _ h) (fun _ h238 => Ks_ite (ih _ _ _ h238) (ih _ _ _ h238))
    | 18 =>
      refine Ks_eq (by rw [x_operate]) ?_
      exact ih _ _ _ h
    | 19 =>
      refine Ks_eq (by rw [x_operate]) ?_
      exact Ks_ob (ks_truth _ _ _ _ h) (fun _ h239 => Ks_so h239)
    | 20 =>
      refine Ks_eq (by rw [x_operate]) ?_
      exact Ks_ob (ks_compare _ _ _ _ h) (fun _ h240 => Ks_ite (ih _ _ _ h240) (ih _ _ _ h240))
    | 21 =>
      refine Ks_eq (by rw [x_operate]) ?_
      exact ih _ _ _ h
    | 22 =>
      refine Ks_eq (by rw [x_operate]) ?_
      exact Ks_ob (ks_truth _ _ _ _ h) (fun _ h241 => Ks_so h241)
    | 23 =>
      refine Ks_eq (by rw [x_operate]) ?_
      exact Ks_ite (ih _ _ _ h) (Ks_ob (ks_divide _ _ _ _ h) (fun _ h242 => ih _ _ _ h242))
    | 24 =>
      refine Ks_eq (by rw [x_operate]) ?_
      exact Ks_ob (ks_wrongKind _ _ _ _ h) (fun _ h243 => ih _ _ _ h243)
    | 25 =>
      refine Ks_eq (by rw [x_operate]) ?_
      exact Ks_so h
    | 26 =>
      refine Ks_eq (by rw [x_operate]) ?_
      exact Ks_ite (ih _ _ _ h) (Ks_ob (ks_divide _ _ _ _ h) (fun _ h244 => ih _ _ _ h244))
    | 27 =>
      refine Ks_eq (by rw [x_operate]) ?_
      exact Ks_ob (ks_wrongKind _ _ _ _ h) (fun _ h245 => ih _ _ _ h245)
    | 28 =>
      refine Ks_eq (by rw [x_operate]) ?_
      exact Ks_so h
    | 29 =>
      refine Ks_eq (by rw [x_operate]) ?_
      exact Ks_ob (ks_isIn _ _ _ _ h) (fun _ h246 => Ks_so h246)
    | 30 =>
      refine Ks_eq (by rw [x_operate]) ?_
      exact Ks_ob (ks_isIn _ _ _ _ h) (fun _ h247 => Ks_ite (ih _ _ _ h247) (ih _ _ _ h247))
    | 31 =>
      refine Ks_eq (by rw [x_operate]) ?_
      exact ih _ _ _ h
    | 32 =>
      refine Ks_eq (by rw [x_operate]) ?_
      exact Ks_ob (ks_truth _ _ _ _ h) (fun _ h248 => Ks_so h248)
    | 33 =>
      refine Ks_eq (by rw [x_operate]) ?_
      exact Ks_ite (Ks_ite (Ks_ob (ks_isSubset _ _ _ _ h) (fun _ h249 => Ks_ob (ks_truth _ _ _ _ h249) (fun _ h250 => ih _ _ _ h250))) (ih _ _ _ h)) (ih _ _ _ h)
    | 34 =>
      refine Ks_eq (by rw [x_operate]) ?_
      exact Ks_ob (ks_wrongKind _ _ _ _ h) (fun _ h251 => ih _ _ _ h251)
    | 35 =>
      refine Ks_eq (by rw [x_operate]) ?_
      exact Ks_so h
    | 36 =>
      refine Ks_eq (by rw [x_operate]) ?_
      exact Ks_ite (Ks_ite (Ks_ite (ih _ _ _ h) (ih _ _ _ h)) (ih _ _ _ h)) (ih _ _ _ h)
    | 37 =>
      refine Ks_eq (by rw [x_operate]) ?_
      exact Ks_ob (ks_wrongKind _ _ _ _ h) (fun _ h252 => Ks_so h252)
    | 38 =>
      refine Ks_eq (by rw [x_operate]) ?_
      exact Ks_ob (ks_compare _ _ _ _ h) (fun _ h253 => Ks_ite (Ks_ite (ih _ _ _ h253) (ih _ _ _ h253)) (ih _ _ _ h253))
    | 39 =>
      refine Ks_eq (by rw [x_operate]) ?_
      exact ih _ _ _ h
    | 40 =>
      refine Ks_eq (by rw [x_operate]) ?_
      exact Ks_ite (Ks_ite (ih _ _ _ h) (ih _ _ _ h)) (ih _ _ _ h)
    | 41 =>
      refine Ks_eq (by rw [x_operate]) ?_
      exact ih _ _ _ h
    | 42 =>
      refine Ks_eq (by rw [x_operate]) ?_
      exact Ks_ite (Ks_ite (ih _ _ _ h) (ih _ _ _ h)) (ih _ _ _ h)
    | 43 =>
      refine Ks_eq (by rw [x_operate]) ?_
      exact ih _ _ _ h
    | 44 =>
      refine Ks_eq (by rw [x_operate]) ?_
      exact Ks_ite (ih _ _ _ h) (ih _ _ _ h)
    | 45 =>
      refine Ks_eq (by rw [x_operate]) ?_
      exact ih _ _ _ h
    | 46 =>
      refine Ks_eq (by rw [x_operate]) ?_
      exact Ks_ob (ks_truth _ _ _ _ h) (fun _ h254 => Ks_so h254)
    | b + 47 =>
      exact Ks_eq (by rw [x_operate]) Ks_no
theorem ks_reduce : ∀ (k b : Nat) (L : Nat → Int32) (σ : MS), ks w σ → Ks w (x_reduce k b L σ) := by
  intro k
  induction k with
  | zero => intro b L σ _; exact Ks_no
  | succ k ih =>
    intro b L σ h
    match b with
    | 0 =>
      refine Ks_eq (by rw [x_reduce]) ?_
      exact Ks_ob (ks_kind _ _ _ _ h) (fun _ h255 => Ks_ite (ih _ _ _ h255) (Ks_ite (ih _ _ _ h255) (Ks_ob (ks_wrongKind _ _ _ _ h255) (fun _ h256 => Ks_so h256))))
    | 1 =>
      refine Ks_eq (by rw [x_reduce]) ?_
      exact Ks_ite (Ks_ite (Ks_so h) (ih _ _ _ h)) (Ks_no)
    | 2 =>
      refine Ks_eq (by rw [x_reduce]) ?_
      exact Ks_ob (ks_push _ _ _ _ h) (fun _ h257 => Ks_ite (Ks_ob (ks_push _ _ _ _ h257) (fun _ h258 => ih _ _ _ h258)) (Ks_no))
    | 3 =>
      refine Ks_eq (by rw [x_reduce]) ?_
      exact Ks_ite (ih _ _ _ h) (Ks_ite (Ks_ob (ks_sweep _ _ _ _ h) (fun _ h259 => Ks_ite (Ks_ite (Ks_ite (Ks_ite (ih _ _ _ h259) (Ks_ite (ih _ _ _ h259) (ih _ _ _ h259))) (Ks_no)) (Ks_no)) (Ks_no))) (ih _ _ _ h))
    | 4 =>
      refine Ks_eq (by rw [x_reduce]) ?_
      exact Ks_ob (ks_operate _ _ _ _ h) (fun _ h260 => Ks_ob (ks_answer _ _ _ _ h260) (fun _ h261 => ih _ _ _ h261))
    | 5 =>
      refine Ks_eq (by rw [x_reduce]) ?_
      exact Ks_ob (ks_operate _ _ _ _ h) (fun _ h262 => Ks_ite (ih _ _ _ h262) (ih _ _ _ h262))
    | 6 =>
      refine Ks_eq (by rw [x_reduce]) ?_
      exact ih _ _ _ h
    | 7 =>
      refine Ks_eq (by rw [x_reduce]) ?_
      exact Ks_ite (Ks_ite (ih _ _ _ h) (Ks_ite (ih _ _ _ h) (ih _ _ _ h))) (ih _ _ _ h)
    | 8 =>
      refine Ks_eq (by rw [x_reduce]) ?_
      exact Ks_ob (ks_operate _ _ _ _ h) (fun _ h263 => Ks_ite (ih _ _ _ h263) (ih _ _ _ h263))
    | 9 =>
      refine Ks_eq (by rw [x_reduce]) ?_
      exact ih _ _ _ h
    | 10 =>
      refine Ks_eq (by rw [x_reduce]) ?_
      exact ih _ _ _ h
    | 11 =>
      refine Ks_eq (by rw [x_reduce]) ?_
      exact ih _ _ _ h
    | 12 =>
      refine Ks_eq (by rw [x_reduce]) ?_
      exact Ks_ite (ih _ _ _ h) (Ks_no)
    | 13 =>
      refine Ks_eq (by rw [x_reduce]) ?_
      exact ih _ _ _ h
    | 14 =>
      refine Ks_eq (by rw [x_reduce]) ?_
      exact ih _ _ _ h
    | 15 =>
      refine Ks_eq (by rw [x_reduce]) ?_
      exact Ks_ite (Ks_ite (ih _ _ _ h) (Ks_no)) (ih _ _ _ h)
    | 16 =>
      refine Ks_eq (by rw [x_reduce]) ?_
      exact ih _ _ _ h
    | 17 =>
      refine Ks_eq (by rw [x_reduce]) ?_
      exact Ks_so h
    | b + 18 =>
      exact Ks_eq (by rw [x_reduce]) Ks_no
theorem ks_single : ∀ (k b : Nat) (L : Nat → Int32) (σ : MS), ks w σ → Ks w (x_single k b L σ) := by
  intro k
  induction k with
  | zero => intro b L σ _; exact Ks_no
  | succ k ih =>
    intro b L σ h
    match b with
    | 0 =>
      refine Ks_eq (by rw [x_single]) ?_
      exact Ks_ite (Ks_ite (ih _ _ _ h) (Ks_ite (ih _ _ _ h) (Ks_ite (ih _ _ _ h) (Ks_ite (ih _ _ _ h) (ih _ _ _ h))))) (Ks_no)
    | 1 =>
      refine Ks_eq (by rw [x_single]) ?_
      exact Ks_ite (Ks_ob (ks_function _ _ _ _ h) (fun _ h264 => Ks_so h264)) (Ks_no)
    | 2 =>
      refine Ks_eq (by rw [x_single]) ?_
      exact Ks_ob (ks_negative _ _ _ _ h) (fun _ h265 => Ks_so h265)
    | 3 =>
      refine Ks_eq (by rw [x_single]) ?_
      exact Ks_ob (ks_many _ _ _ _ h) (fun _ h266 => Ks_so h266)
    | 4 =>
      refine Ks_eq (by rw [x_single]) ?_
      exact Ks_ob (ks_turned _ _ _ _ h) (fun _ h267 => Ks_so h267)
    | 5 =>
      refine Ks_eq (by rw [x_single]) ?_
      exact Ks_ite (Ks_ob (ks_reduce _ _ _ _ h) (fun _ h268 => Ks_so h268)) (Ks_no)
    | b + 6 =>
      exact Ks_eq (by rw [x_single]) Ks_no
theorem ks_range : ∀ (k b : Nat) (L : Nat → Int32) (σ : MS), ks w σ → Ks w (x_range k b L σ) := by
  intro k
  induction k with
  | zero => intro b L σ _; exact Ks_no
  | succ k ih =>
    intro b L σ h
    match b with
    | 0 =>
      refine Ks_eq (by rw [x_range]) ?_
      exact Ks_ob (ks_pop _ _ _ _ h) (fun _ h269 => Ks_ite (ih _ _ _ h269) (Ks_ob (ks_pop _ _ _ _ h269) (fun _ h270 => ih _ _ _ h270)))
    | 1 =>
      refine Ks_eq (by rw [x_range]) ?_
      exact ih _ _ _ h
    | 2 =>
      refine Ks_eq (by rw [x_range]) ?_
      exact Ks_ob (ks_pop _ _ _ _ h) (fun _ h271 => Ks_ob (ks_kind _ _ _ _ h271) (fun _ h272 => Ks_ite (Ks_ob (ks_kind _ _ _ _ h272) (fun _ h273 => Ks_ite (Ks_ite (ih _ _ _ h273) (Ks_ob (ks_kind _ _ _ _ h273) (fun _ h274 => Ks_ite (ih _ _ _ h274) (ih _ _ _ h274)))) (ih _ _ _ h273))) (ih _ _ _ h272)))
    | 3 =>
      refine Ks_eq (by rw [x_range]) ?_
      exact Ks_ob (ks_wrongKind _ _ _ _ h) (fun _ h275 => Ks_so h275)
    | 4 =>
      refine Ks_eq (by rw [x_range]) ?_
      exact Ks_ite (ih _ _ _ h) (Ks_ob (ks_add _ _ _ _ h) (fun _ h276 => ih _ _ _ h276))
    | 5 =>
      refine Ks_eq (by rw [x_range]) ?_
      exact Ks_ob (ks_small _ _ _ _ h) (fun _ h277 => ih _ _ _ h277)
    | 6 =>
      refine Ks_eq (by rw [x_range]) ?_
      exact Ks_ite (ih _ _ _ h) (ih _ _ _ h)
    | 7 =>
      refine Ks_eq (by rw [x_range]) ?_
      exact ih _ _ _ h
    | 8 =>
      refine Ks_eq (by rw [x_range]) ?_
      exact ih _ _ _ h
    | 9 =>
      refine Ks_eq (by rw [x_range]) ?_
      exact Ks_ite (ih _ _ _ h) (Ks_ob (ks_compareWholes _ _ _ _ h) (fun _ h278 => Ks_ite (ih _ _ _ h278) (ih _ _ _ h278)))
    | 10 =>
      refine Ks_eq (by rw [x_range]) ?_
      exact ih _ _ _ h
    | 11 =>
      refine Ks_eq (by rw [x_range]) ?_
      exact Ks_ob (ks_signOf _ _ _ _ h) (fun _ h279 => ih _ _ _ h279)
    | 12 =>
      refine Ks_eq (by rw [x_range]) ?_
      exact Ks_ite (ih _ _ _ h) (ih _ _ _ h)
    | 13 =>
      refine Ks_eq (by rw [x_range]) ?_
      exact ih _ _ _ h
    | 14 =>
      refine Ks_eq (by rw [x_range]) ?_
      exact ih _ _ _ h
    | 15 =>
      refine Ks_eq (by rw [x_range]) ?_
      exact Ks_ite (Ks_ite (ih _ _ _ h) (Ks_ite (ih _ _ _ h) (Ks_ob (ks_compareWholes _ _ _ _ h) (fun _ h280 => Ks_ite (ih _ _ _ h280) (ih _ _ _ h280))))) (ih _ _ _ h)
    | 16 =>
      refine Ks_eq (by rw [x_range]) ?_
      exact Ks_ob (ks_compareWholes _ _ _ _ h) (fun _ h281 => Ks_ite (ih _ _ _ h281) (ih _ _ _ h281))
    | 17 =>
      refine Ks_eq (by rw [x_range]) ?_
      exact Ks_ob (ks_push _ _ _ _ h) (fun _ h282 => Ks_ite (ih _ _ _ h282) (Ks_ob (ks_fail _ _ _ _ h282) (fun _ h283 => ih _ _ _ h283)))
    | 18 =>
      refine Ks_eq (by rw [x_range]) ?_
      exact Ks_ite (ih _ _ _ h) (Ks_ite (ih _ _ _ h) (ih _ _ _ h))
    | 19 =>
      refine Ks_eq (by rw [x_range]) ?_
      exact ih _ _ _ h
    | 20 =>
      refine Ks_eq (by rw [x_range]) ?_
      exact ih _ _ _ h
    | 21 =>
      refine Ks_eq (by rw [x_range]) ?_
      exact Ks_ob (ks_add _ _ _ _ h) (fun _ h284 => Ks_ite (ih _ _ _ h284) (ih _ _ _ h284))
    | 22 =>
      refine Ks_eq (by rw [x_range]) ?_
      exact ih _ _ _ h
    | 23 =>
      refine Ks_eq (by rw [x_range]) ?_
      exact ih _ _ _ h
    | 24 =>
      refine Ks_eq (by rw [x_range]) ?_
      exact Ks_ite (ih _ _ _ h) (Ks_so h)
    | 25 =>
      refine Ks_eq (by rw [x_range]) ?_
      exact Ks_ite (ih _ _ _ h) (Ks_ob (ks_setOf _ _ _ _ h) (fun _ h285 => ih _ _ _ h285))
    | 26 =>
      refine Ks_eq (by rw [x_range]) ?_
      exact Ks_ob (ks_tupleOf _ _ _ _ h) (fun _ h286 => ih _ _ _ h286)
    | 27 =>
      refine Ks_eq (by rw [x_range]) ?_
      exact Ks_so h
    | b + 28 =>
      exact Ks_eq (by rw [x_range]) Ks_no
theorem ks_isOver : ∀ (k b : Nat) (L : Nat → Int32) (σ : MS), ks w σ → Ks w (x_isOver k b L σ) := by
  intro k
  induction k with
  | zero => intro b L σ _; exact Ks_no
  | succ k ih =>
    intro b L σ h
    match b with
    | 0 =>
      refine Ks_eq (by rw [x_isOver]) ?_
      exact Ks_ite (ih _ _ _ h) (Ks_ite (ih _ _ _ h) (Ks_ite (ih _ _ _ h) (Ks_ite (ih _ _ _ h) (Ks_ite (ih _ _ _ h) (Ks_ite (ih _ _ _ h) (Ks_ite (ih _ _ _ h) (ih _ _ _ h)))))))
    | 1 =>
      refine Ks_eq (by rw [x_isOver]) ?_
      exact ih _ _ _ h
    | 2 =>
      refine Ks_eq (by rw [x_isOver]) ?_
      exact ih _ _ _ h
    | 3 =>
      refine Ks_eq (by rw [x_isOver]) ?_
      exact Ks_ite (Ks_so h) (Ks_no)
    | b + 4 =>
      exact Ks_eq (by rw [x_isOver]) Ks_no
theorem ks_bindOne : ∀ (k b : Nat) (L : Nat → Int32) (σ : MS), ks w σ → Ks w (x_bindOne k b L σ) := by
  intro k
  induction k with
  | zero => intro b L σ _; exact Ks_no
  | succ k ih =>
    intro b L σ h
    match b with
    | 0 =>
      refine Ks_eq (by rw [x_bindOne]) ?_
      exact Ks_ite (Ks_ite (Ks_ite (Ks_ite (ih _ _ _ h) (Ks_no)) (Ks_no)) (ih _ _ _ h)) (Ks_no)
    | 1 =>
      refine Ks_eq (by rw [x_bindOne]) ?_
      exact Ks_ite (ih _ _ _ h) (Ks_ite (Ks_ite (ih _ _ _ h) (Ks_no)) (Ks_no))
    | 2 =>
      refine Ks_eq (by rw [x_bindOne]) ?_
      exact Ks_ite (Ks_ite (Ks_ite (ih _ _ _ h) (Ks_no)) (Ks_no)) (Ks_no)
    | 3 =>
      refine Ks_eq (by rw [x_bindOne]) ?_
      exact Ks_so h
    | b + 4 =>
      exact Ks_eq (by rw [x_bindOne]) Ks_no
theorem ks_clear : ∀ (k b : Nat) (L : Nat → Int32) (σ : MS), ks w σ → Ks w (x_clear k b L σ) := by
  intro k
  induction k with
  | zero => intro b L σ _; exact Ks_no
  | succ k ih =>
    intro b L σ h
    match b with
    | 0 =>
      refine Ks_eq (by rw [x_clear]) ?_
      exact ih _ _ _ h
    | 1 =>
      refine Ks_eq (by rw [x_clear]) ?_
      exact Ks_ite (ih _ _ _ h) (Ks_ite (ih _ _ _ h) (Ks_no))
    | 2 =>
      refine Ks_eq (by rw [x_clear]) ?_
      exact Ks_ite (ih _ _ _ h) (Ks_ob (ks_bindOne _ _ _ _ h) (fun _ h287 => Ks_ite (ih _ _ _ h287) (Ks_no)))
    | 3 =>
      refine Ks_eq (by rw [x_clear]) ?_
      exact Ks_ite (ih _ _ _ h) (Ks_no)
    | 4 =>
      refine Ks_eq (by rw [x_clear]) ?_
      exact Ks_so h
    | b + 5 =>
      exact Ks_eq (by rw [x_clear]) Ks_no
theorem ks_bind : ∀ (k b : Nat) (L : Nat → Int32) (σ : MS), ks w σ → Ks w (x_bind k b L σ) := by
  intro k
  induction k with
  | zero => intro b L σ _; exact Ks_no
  | succ k ih =>
    intro b L σ h
    match b with
    | 0 =>
      refine Ks_eq (by rw [x_bind]) ?_
      exact Ks_ite (Ks_ite (Ks_ite (Ks_ob (ks_bindOne _ _ _ _ h) (fun _ h288 => Ks_so h288)) (Ks_no)) (ih _ _ _ h)) (Ks_no)
    | 1 =>
      refine Ks_eq (by rw [x_bind]) ?_
      exact Ks_ite (ih _ _ _ h) (Ks_no)
    | 2 =>
      refine Ks_eq (by rw [x_bind]) ?_
      exact Ks_ite (ih _ _ _ h) (Ks_ite (ih _ _ _ h) (Ks_no))
    | 3 =>
      refine Ks_eq (by rw [x_bind]) ?_
      exact Ks_ob (ks_kind _ _ _ _ h) (fun _ h289 => Ks_ite (Ks_ite (Ks_ite (ih _ _ _ h289) (ih _ _ _ h289)) (Ks_no)) (ih _ _ _ h289))
    | 4 =>
      refine Ks_eq (by rw [x_bind]) ?_
      exact Ks_ob (ks_fail _ _ _ _ h) (fun _ h290 => Ks_so h290)
    | 5 =>
      refine Ks_eq (by rw [x_bind]) ?_
      exact Ks_ite (ih _ _ _ h) (Ks_no)
    | 6 =>
      refine Ks_eq (by rw [x_bind]) ?_
      exact Ks_ite (ih _ _ _ h) (Ks_ite (Ks_ite (ih _ _ _ h) (Ks_ite (ih _ _ _ h) (Ks_no))) (Ks_no))
    | 7 =>
      refine Ks_eq (by rw [x_bind]) ?_
      exact ih _ _ _ h
    | 8 =>
      refine Ks_eq (by rw [x_bind]) ?_
      exact Ks_ob (ks_bindOne _ _ _ _ h) (fun _ h291 => Ks_ite (ih _ _ _ h291) (Ks_no))
    | 9 =>
      refine Ks_eq (by rw [x_bind]) ?_
      exact Ks_so h
    | b + 10 =>
      exact Ks_eq (by rw [x_bind]) Ks_no
theorem ks_stepIter : ∀ (k b : Nat) (L : Nat → Int32) (σ : MS), ks w σ → Ks w (x_stepIter k b L σ) := by
  intro k
  induction k with
  | zero => intro b L σ _; exact Ks_no
  | succ k ih =>
    intro b L σ h
    match b with
    | 0 =>
      refine Ks_eq (by rw [x_stepIter]) ?_
      exact Ks_ite (Ks_ite (Ks_ite (Ks_ite (Ks_so h) (ih _ _ _ h)) (Ks_no)) (Ks_no)) (Ks_no)
    | 1 =>
      refine Ks_eq (by rw [x_stepIter]) ?_
      exact Ks_ite (ih _ _ _ h) (Ks_no)
    | 2 =>
      refine Ks_eq (by rw [x_stepIter]) ?_
      exact Ks_ob (ks_worked _ _ _ _ h) (fun _ h292 => Ks_ite (Ks_ob (ks_memberAt _ _ _ _ h292) (fun _ h293 => Ks_ob (ks_bind _ _ _ _ h293) (fun _ h294 => ih _ _ _ h294))) (ih _ _ _ h292))
    | 3 =>
      refine Ks_eq (by rw [x_stepIter]) ?_
      exact Ks_ite (ih _ _ _ h) (ih _ _ _ h)
    | 4 =>
      refine Ks_eq (by rw [x_stepIter]) ?_
      exact ih _ _ _ h
    | 5 =>
      refine Ks_eq (by rw [x_stepIter]) ?_
      exact Ks_ite (Ks_so h) (Ks_no)
    | b + 6 =>
      exact Ks_eq (by rw [x_stepIter]) Ks_no
theorem ks_isTrue : ∀ (k b : Nat) (L : Nat → Int32) (σ : MS), ks w σ → Ks w (x_isTrue k b L σ) := by
  intro k
  induction k with
  | zero => intro b L σ _; exact Ks_no
  | succ k ih =>
    intro b L σ h
    match b with
    | 0 =>
      refine Ks_eq (by rw [x_isTrue]) ?_
      exact Ks_ob (ks_pop _ _ _ _ h) (fun _ h295 => Ks_ite (ih _ _ _ h295) (Ks_ite (ih _ _ _ h295) (Ks_ob (ks_fail _ _ _ _ h295) (fun _ h296 => ih _ _ _ h296))))
    | 1 =>
      refine Ks_eq (by rw [x_isTrue]) ?_
      exact Ks_ite (ih _ _ _ h) (ih _ _ _ h)
    | 2 =>
      refine Ks_eq (by rw [x_isTrue]) ?_
      exact ih _ _ _ h
    | 3 =>
      refine Ks_eq (by rw [x_isTrue]) ?_
      exact Ks_ite (Ks_so h) (Ks_no)
    | b + 4 =>
      exact Ks_eq (by rw [x_isTrue]) Ks_no
theorem ks_isSlice : ∀ (k b : Nat) (L : Nat → Int32) (σ : MS), ks w σ → Ks w (x_isSlice k b L σ) := by
  intro k
  induction k with
  | zero => intro b L σ _; exact Ks_no
  | succ k ih =>
    intro b L σ h
    match b with
    | 0 =>
      refine Ks_eq (by rw [x_isSlice]) ?_
      exact Ks_ob (ks_kind _ _ _ _ h) (fun _ h297 => Ks_ite (ih _ _ _ h297) (Ks_ite (ih _ _ _ h297) (ih _ _ _ h297)))
    | 1 =>
      refine Ks_eq (by rw [x_isSlice]) ?_
      exact Ks_ob (ks_kind _ _ _ _ h) (fun _ h298 => Ks_ite (Ks_ob (ks_kind _ _ _ _ h298) (fun _ h299 => Ks_ite (ih _ _ _ h299) (ih _ _ _ h299))) (ih _ _ _ h298))
    | 2 =>
      refine Ks_eq (by rw [x_isSlice]) ?_
      exact Ks_ob (ks_fail _ _ _ _ h) (fun _ h300 => Ks_so h300)
    | 3 =>
      refine Ks_eq (by rw [x_isSlice]) ?_
      exact Ks_ob (ks_intOf _ _ _ _ _ h) (fun _ h301 => ih _ _ _ h301)
    | 4 =>
      refine Ks_eq (by rw [x_isSlice]) ?_
      exact Ks_ob (ks_intOf _ _ _ _ _ h) (fun _ h302 => ih _ _ _ h302)
    | 5 =>
      refine Ks_eq (by rw [x_isSlice]) ?_
      exact Ks_so h
    | b + 6 =>
      exact Ks_eq (by rw [x_isSlice]) Ks_no
theorem ks_isSliceIn : ∀ (k b : Nat) (L : Nat → Int32) (σ : MS), ks w σ → Ks w (x_isSliceIn k b L σ) := by
  intro k
  induction k with
  | zero => intro b L σ _; exact Ks_no
  | succ k ih =>
    intro b L σ h
    match b with
    | 0 =>
      refine Ks_eq (by rw [x_isSliceIn]) ?_
      exact Ks_ite (ih _ _ _ h) (Ks_ite (ih _ _ _ h) (Ks_ite (Ks_ite (ih _ _ _ h) (ih _ _ _ h)) (Ks_no)))
    | 1 =>
      refine Ks_eq (by rw [x_isSliceIn]) ?_
      exact Ks_ob (ks_fail _ _ _ _ h) (fun _ h303 => Ks_so h303)
    | 2 =>
      refine Ks_eq (by rw [x_isSliceIn]) ?_
      exact Ks_so h
    | b + 3 =>
      exact Ks_eq (by rw [x_isSliceIn]) Ks_no
theorem ks_stringOf__28 : ∀ (k b : Nat) (L : Nat → Int32) (σ : MS), ks w σ → Ks w (x_stringOf__28 k b L σ) := by
  intro k
  induction k with
  | zero => intro b L σ _; exact Ks_no
  | succ k ih =>
    intro b L σ h
    match b with
    | 0 =>
      refine Ks_eq (by rw [x_stringOf__28]) ?_
      exact Ks_ite (Ks_no) (Ks_ite (ih _ _ _ h) (Ks_ob (ks_fail _ _ _ _ h) (fun _ h304 => Ks_so h304)))
    | 1 =>
      refine Ks_eq (by rw [x_stringOf__28]) ?_
      exact Ks_ob (ks_make _ _ _ _ h) (fun _ h305 => ih _ _ _ h305)
    | 2 =>
      refine Ks_eq (by rw [x_stringOf__28]) ?_
      exact Ks_ite (ih _ _ _ h) (Ks_ite (Ks_ite (Ks_ite (ih _ _ _ h) (Ks_no)) (Ks_no)) (ih _ _ _ h))
    | 3 =>
      refine Ks_eq (by rw [x_stringOf__28]) ?_
      exact ih _ _ _ h
    | 4 =>
      refine Ks_eq (by rw [x_stringOf__28]) ?_
      exact Ks_ite (Ks_no) (Ks_ite (ih _ _ _ h) (Ks_no))
    | 5 =>
      refine Ks_eq (by rw [x_stringOf__28]) ?_
      exact Ks_so h
    | b + 6 =>
      exact Ks_eq (by rw [x_stringOf__28]) Ks_no
theorem ks_slice : ∀ (k b : Nat) (L : Nat → Int32) (σ : MS), ks w σ → Ks w (x_slice k b L σ) := by
  intro k
  induction k with
  | zero => intro b L σ _; exact Ks_no
  | succ k ih =>
    intro b L σ h
    match b with
    | 0 =>
      refine Ks_eq (by rw [x_slice]) ?_
      exact Ks_ob (ks_isSlice _ _ _ _ h) (fun _ h306 => Ks_ite (ih _ _ _ h306) (Ks_ob (ks_isSliceIn _ _ _ _ h306) (fun _ h307 => Ks_ite (ih _ _ _ h307) (ih _ _ _ h307))))
    | 1 =>
      refine Ks_eq (by rw [x_slice]) ?_
      exact Ks_so h
    | 2 =>
      refine Ks_eq (by rw [x_slice]) ?_
      exact Ks_ite (Ks_ite (Ks_ob (ks_stringOf__28 _ _ _ _ h) (fun _ h308 => Ks_so h308)) (ih _ _ _ h)) (Ks_no)
    | 3 =>
      refine Ks_eq (by rw [x_slice]) ?_
      exact ih _ _ _ h
    | 4 =>
      refine Ks_eq (by rw [x_slice]) ?_
      exact Ks_ite (ih _ _ _ h) (Ks_ite (Ks_ob (ks_push _ _ _ _ h) (fun _ h309 => ih _ _ _ h309)) (Ks_no))
    | 5 =>
      refine Ks_eq (by rw [x_slice]) ?_
      exact Ks_ob (ks_tupleOf _ _ _ _ h) (fun _ h310 => Ks_so h310)
    | b + 6 =>
      exact Ks_eq (by rw [x_slice]) Ks_no
theorem ks_partAt : ∀ (k b : Nat) (L : Nat → Int32) (σ : MS), ks w σ → Ks w (x_partAt k b L σ) := by
  intro k
  induction k with
  | zero => intro b L σ _; exact Ks_no
  | succ k ih =>
    intro b L σ h
    match b with
    | 0 =>
      refine Ks_eq (by rw [x_partAt]) ?_
      exact Ks_ob (ks_kind _ _ _ _ h) (fun _ h311 => Ks_ite (ih _ _ _ h311) (Ks_ite (ih _ _ _ h311) (ih _ _ _ h311)))
    | 1 =>
      refine Ks_eq (by rw [x_partAt]) ?_
      exact Ks_ob (ks_kind _ _ _ _ h) (fun _ h312 => Ks_ite (ih _ _ _ h312) (Ks_ob (ks_wrongKind _ _ _ _ h312) (fun _ h313 => Ks_so h313)))
    | 2 =>
      refine Ks_eq (by rw [x_partAt]) ?_
      exact Ks_ob (ks_intOf _ _ _ _ _ h) (fun _ h314 => Ks_ite (ih _ _ _ h314) (Ks_ob (ks_fail _ _ _ _ h314) (fun _ h315 => Ks_so h315)))
    | 3 =>
      refine Ks_eq (by rw [x_partAt]) ?_
      exact Ks_ite (Ks_ite (ih _ _ _ h) (ih _ _ _ h)) (Ks_no)
    | 4 =>
      refine Ks_eq (by rw [x_partAt]) ?_
      exact Ks_ob (ks_memberAt _ _ _ _ h) (fun _ h316 => ih _ _ _ h316)
    | 5 =>
      refine Ks_eq (by rw [x_partAt]) ?_
      exact Ks_so h
    | 6 =>
      refine Ks_eq (by rw [x_partAt]) ?_
      exact Ks_ob (ks_isMap _ _ _ _ h) (fun _ h317 => Ks_ite (Ks_ob (ks_wrongKind _ _ _ _ h317) (fun _ h318 => Ks_so h318)) (ih _ _ _ h317))
    | 7 =>
      refine Ks_eq (by rw [x_partAt]) ?_
      exact ih _ _ _ h
    | 8 =>
      refine Ks_eq (by rw [x_partAt]) ?_
      exact Ks_ite (Ks_ite (ih _ _ _ h) (Ks_ite (Ks_ite (Ks_ob (ks_compare _ _ _ _ h) (fun _ h319 => Ks_ite (Ks_ite (ih _ _ _ h319) (Ks_no)) (ih _ _ _ h319))) (Ks_no)) (Ks_no))) (Ks_no)
    | 9 =>
      refine Ks_eq (by rw [x_partAt]) ?_
      exact ih _ _ _ h
    | 10 =>
      refine Ks_eq (by rw [x_partAt]) ?_
      exact Ks_ite (ih _ _ _ h) (ih _ _ _ h)
    | 11 =>
      refine Ks_eq (by rw [x_partAt]) ?_
      exact ih _ _ _ h
    | 12 =>
      refine Ks_eq (by rw [x_partAt]) ?_
      exact Ks_so h
    | b + 13 =>
      exact Ks_eq (by rw [x_partAt]) Ks_no
theorem ks_image : ∀ (k b : Nat) (L : Nat → Int32) (σ : MS), ks w σ → Ks w (x_image k b L σ) := by
  intro k
  induction k with
  | zero => intro b L σ _; exact Ks_no
  | succ k ih =>
    intro b L σ h
    match b with
    | 0 =>
      refine Ks_eq (by rw [x_image]) ?_
      exact Ks_ob (ks_isMap _ _ _ _ h) (fun _ h320 => Ks_ite (Ks_ob (ks_wrongKind _ _ _ _ h320) (fun _ h321 => Ks_so h321)) (ih _ _ _ h320))
    | 1 =>
      refine Ks_eq (by rw [x_image]) ?_
      exact ih _ _ _ h
    | 2 =>
      refine Ks_eq (by rw [x_image]) ?_
      exact Ks_ite (Ks_ite (ih _ _ _ h) (Ks_ite (Ks_ite (Ks_ob (ks_compare _ _ _ _ h) (fun _ h322 => Ks_ite (Ks_ite (Ks_ob (ks_push _ _ _ _ h322) (fun _ h323 => ih _ _ _ h323)) (Ks_no)) (ih _ _ _ h322))) (Ks_no)) (Ks_no))) (Ks_no)
    | 3 =>
      refine Ks_eq (by rw [x_image]) ?_
      exact ih _ _ _ h
    | 4 =>
      refine Ks_eq (by rw [x_image]) ?_
      exact Ks_ob (ks_setOf _ _ _ _ h) (fun _ h324 => Ks_so h324)
    | b + 5 =>
      exact Ks_eq (by rw [x_image]) Ks_no
theorem ks_isRow : ∀ (k b : Nat) (L : Nat → Int32) (σ : MS), ks w σ → Ks w (x_isRow k b L σ) := by
  intro k
  induction k with
  | zero => intro b L σ _; exact Ks_no
  | succ k ih =>
    intro b L σ h
    match b with
    | 0 =>
      refine Ks_eq (by rw [x_isRow]) ?_
      exact Ks_ob (ks_kind _ _ _ _ h) (fun _ h325 => Ks_ite (ih _ _ _ h325) (ih _ _ _ h325))
    | 1 =>
      refine Ks_eq (by rw [x_isRow]) ?_
      exact ih _ _ _ h
    | 2 =>
      refine Ks_eq (by rw [x_isRow]) ?_
      exact Ks_ite (Ks_so h) (Ks_no)
    | b + 3 =>
      exact Ks_eq (by rw [x_isRow]) Ks_no
theorem ks_s_begins {X : Nat → Nat → Nat → (Nat → Int32) → MS → Option (Int32 × MS)} (hX : ∀ e m b L (σ : MS), ks w σ → Ks w (X e m b L σ)) (k d b : Nat) (L : Nat → Int32) (σ : MS) (h : ks w σ) : Ks w (s_begins X k d b L σ) := by
  match b with
  | 0 => exact Ks_ite (hX _ _ _ _ _ h) (Ks_so h)
  | 1 => exact Ks_ite (Ks_ite (hX _ _ _ _ _ h) (Ks_ite (hX _ _ _ _ _ h) (Ks_ite (hX _ _ _ _ _ h) (Ks_ite (hX _ _ _ _ _ h) (Ks_ite (hX _ _ _ _ _ h) (Ks_ite (hX _ _ _ _ _ h) (Ks_ite (hX _ _ _ _ _ h) (Ks_ite (hX _ _ _ _ _ h) (Ks_ite (hX _ _ _ _ _ h) (Ks_ite (hX _ _ _ _ _ h) (Ks_ite (hX _ _ _ _ _ h) (Ks_ite (hX _ _ _ _ _ h) (Ks_ite (hX _ _ _ _ _ h) (Ks_ite (hX _ _ _ _ _ h) (Ks_ite (hX _ _ _ _ _ h) (hX _ _ _ _ _ h)))))))))))))))) (Ks_no)
  | 2 => exact Ks_ob (ks_sweep _ _ _ _ h) (fun _ h326 => Ks_ite (Ks_ite (Ks_ob (ks_literal _ _ _ _ h326) (fun _ h327 => Ks_ob (ks_answer _ _ _ _ h327) (fun _ h328 => Ks_ob (ks_push _ _ _ _ h328) (fun _ h329 => Ks_so h329)))) (Ks_no)) (Ks_no))
  | 3 => exact Ks_ob (ks_sweep _ _ _ _ h) (fun _ h330 => Ks_ite (Ks_ite (Ks_ob (ks_stringOf__12 _ _ _ _ h330) (fun _ h331 => Ks_ob (ks_answer _ _ _ _ h331) (fun _ h332 => Ks_ob (ks_push _ _ _ _ h332) (fun _ h333 => Ks_so h333)))) (Ks_no)) (Ks_no))
  | 4 => exact Ks_ob (ks_push _ _ _ _ h) (fun _ h334 => Ks_so h334)
  | 5 => exact Ks_ob (ks_push _ _ _ _ h) (fun _ h335 => Ks_so h335)
  | 6 => exact Ks_ob (ks_push _ _ _ _ h) (fun _ h336 => Ks_so h336)
  | 7 => exact Ks_ob (ks_sweep _ _ _ _ h) (fun _ h337 => Ks_ob (ks_newAtom _ _ _ _ h337) (fun _ h338 => Ks_ob (ks_answer _ _ _ _ h338) (fun _ h339 => Ks_ob (ks_push _ _ _ _ h339) (fun _ h340 => Ks_so h340))))
  | 8 => exact Ks_ob (ks_valueOf _ _ _ _ h) (fun _ h341 => Ks_ob (ks_push _ _ _ _ h341) (fun _ h342 => Ks_so h342))
  | 9 => exact Ks_od (fun _ => Ks_ob (hX _ _ _ _ _ h) (fun _ h343 => Ks_so h343))
  | 10 => exact Ks_od (fun _ => Ks_ob (hX _ _ _ _ _ h) (fun _ h344 => Ks_so h344))
  | 11 => exact Ks_od (fun _ => Ks_ob (hX _ _ _ _ _ h) (fun _ h345 => Ks_so h345))
  | 12 => exact Ks_od (fun _ => Ks_ob (hX _ _ _ _ _ h) (fun _ h346 => Ks_so h346))
  | 13 => exact Ks_od (fun _ => Ks_ob (hX _ _ _ _ _ h) (fun _ h347 => Ks_so h347))
  | 14 => exact Ks_od (fun _ => Ks_ob (hX _ _ _ _ _ h) (fun _ h348 => Ks_so h348))
  | 15 => exact Ks_od (fun _ => Ks_ob (hX _ _ _ _ _ h) (fun _ h349 => Ks_so h349))
  | 16 => exact Ks_ite (Ks_od (fun _ => Ks_ob (hX _ _ _ _ _ h) (fun _ h350 => Ks_ite (Ks_ob (ks_sweep _ _ _ _ h350) (fun _ h351 => Ks_ob (ks_pop _ _ _ _ h351) (fun _ h352 => Ks_ob (ks_single _ _ _ _ h352) (fun _ h353 => Ks_ob (ks_answer _ _ _ _ h353) (fun _ h354 => Ks_ob (ks_push _ _ _ _ h354) (fun _ h355 => hX _ _ _ _ _ h355)))))) (hX _ _ _ _ _ h350)))) (Ks_no)
  | 17 => exact Ks_so h
  | b + 18 => exact Ks_no
theorem ks_s_bounds {X : Nat → Nat → Nat → (Nat → Int32) → MS → Option (Int32 × MS)} (hX : ∀ e m b L (σ : MS), ks w σ → Ks w (X e m b L σ)) (k d b : Nat) (L : Nat → Int32) (σ : MS) (h : ks w σ) : Ks w (s_bounds X k d b L σ) := by
  match b with
  | 0 => exact Ks_ite (Ks_od (fun _ => Ks_ob (hX _ _ _ _ _ h) (fun _ h356 => Ks_ite (Ks_ite (hX _ _ _ _ _ h356) (Ks_ite (Ks_ite (Ks_od (fun _ => Ks_ob (hX _ _ _ _ _ h356) (fun _ h357 => hX _ _ _ _ _ h357))) (Ks_no)) (hX _ _ _ _ _ h356))) (Ks_no)))) (Ks_no)
  | 1 => exact Ks_ite (Ks_ite (Ks_od (fun _ => Ks_ob (hX _ _ _ _ _ h) (fun _ h358 => hX _ _ _ _ _ h358))) (Ks_no)) (hX _ _ _ _ _ h)
  | 2 => exact Ks_ite (Ks_ob (ks_sweep _ _ _ _ h) (fun _ h359 => Ks_ite (Ks_ite (hX _ _ _ _ _ h359) (hX _ _ _ _ _ h359)) (Ks_no))) (hX _ _ _ _ _ h)
  | 3 => exact hX _ _ _ _ _ h
  | 4 => exact Ks_ite (Ks_ite (hX _ _ _ _ _ h) (hX _ _ _ _ _ h)) (Ks_no)
  | 5 => exact hX _ _ _ _ _ h
  | 6 => exact Ks_ob (ks_range _ _ _ _ h) (fun _ h360 => Ks_ob (ks_answer _ _ _ _ h360) (fun _ h361 => Ks_ob (ks_push _ _ _ _ h361) (fun _ h362 => hX _ _ _ _ _ h362)))
  | 7 => exact Ks_so h
  | b + 8 => exact Ks_no
theorem ks_s_callFunc {X : Nat → Nat → Nat → (Nat → Int32) → MS → Option (Int32 × MS)} (hX : ∀ e m b L (σ : MS), ks w σ → Ks w (X e m b L σ)) (k d b : Nat) (L : Nat → Int32) (σ : MS) (h : ks w σ) : Ks w (s_callFunc X k d b L σ) := by
  match b with
  | 0 => exact Ks_ite (hX _ _ _ _ _ h) (Ks_no)
  | 1 => exact Ks_ite (hX _ _ _ _ _ h) (Ks_ite (Ks_od (fun _ => Ks_ob (hX _ _ _ _ _ h) (fun _ h363 => Ks_ite (hX _ _ _ _ _ h363) (Ks_no)))) (hX _ _ _ _ _ h))
  | 2 => exact Ks_ite (hX _ _ _ _ _ h) (Ks_so h)
  | 3 => exact Ks_ite (hX _ _ _ _ _ h) (Ks_ite (Ks_ite (hX _ _ _ _ _ h) (hX _ _ _ _ _ h)) (Ks_no))
  | 4 => exact Ks_ob (ks_fail _ _ _ _ h) (fun _ h364 => Ks_so h364)
  | 5 => exact Ks_ob (ks_sweep _ _ _ _ h) (fun _ h365 => Ks_ite (hX _ _ _ _ _ h365) (Ks_no))
  | 6 => exact Ks_ite (hX _ _ _ _ _ h) (Ks_no)
  | 7 => exact hX _ _ _ _ _ h
  | 8 => exact hX _ _ _ _ _ h
  | 9 => exact hX _ _ _ _ _ h
  | 10 => exact Ks_ite (hX _ _ _ _ _ h) (Ks_ite (Ks_ite (hX _ _ _ _ _ h) (Ks_ite (hX _ _ _ _ _ h) (Ks_no))) (Ks_no))
  | 11 => exact hX _ _ _ _ _ h
  | 12 => exact Ks_ite (hX _ _ _ _ _ h) (Ks_no)
  | 13 => exact hX _ _ _ _ _ h
  | 14 => exact hX _ _ _ _ _ h
  | 15 => exact Ks_ite (Ks_od (fun _ => Ks_ob (hX _ _ _ _ _ h) (fun _ h366 => hX _ _ _ _ _ h366))) (Ks_no)
  | 16 => exact Ks_ite (hX _ _ _ _ _ h) (Ks_ite (hX _ _ _ _ _ h) (Ks_no))
  | 17 => exact hX _ _ _ _ _ h
  | 18 => exact hX _ _ _ _ _ h
  | 19 => exact Ks_ite (hX _ _ _ _ _ h) (Ks_no)
  | 20 => exact hX _ _ _ _ _ h
  | 21 => exact Ks_ite (hX _ _ _ _ _ h) (Ks_no)
  | 22 => exact Ks_ite (Ks_ite (Ks_ob (ks_answer _ _ _ _ h) (fun _ h367 => hX _ _ _ _ _ h367)) (Ks_no)) (hX _ _ _ _ _ h)
  | 23 => exact Ks_so h
  | b + 24 => exact Ks_no
theorem ks_s_choose {X : Nat → Nat → Nat → (Nat → Int32) → MS → Option (Int32 × MS)} (hX : ∀ e m b L (σ : MS), ks w σ → Ks w (X e m b L σ)) (k d b : Nat) (L : Nat → Int32) (σ : MS) (h : ks w σ) : Ks w (s_choose X k d b L σ) := by
  match b with
  | 0 => exact Ks_ite (hX _ _ _ _ _ h) (Ks_no)
  | 1 => exact Ks_ite (hX _ _ _ _ _ h) (Ks_ite (Ks_ite (Ks_ite (hX _ _ _ _ _ h) (Ks_ite (Ks_od (fun _ => Ks_ob (hX _ _ _ _ _ h) (fun _ h368 => Ks_ite (hX _ _ _ _ _ h368) (hX _ _ _ _ _ h368)))) (Ks_no))) (Ks_no)) (hX _ _ _ _ _ h))
  | 2 => exact hX _ _ _ _ _ h
  | 3 => exact Ks_ite (hX _ _ _ _ _ h) (Ks_no)
  | 4 => exact Ks_ite (Ks_ite (Ks_od (fun _ => Ks_ob (hX _ _ _ _ _ h) (fun _ h369 => hX _ _ _ _ _ h369))) (Ks_no)) (hX _ _ _ _ _ h)
  | 5 => exact Ks_so h
  | b + 6 => exact Ks_no
theorem ks_s_eval {X : Nat → Nat → Nat → (Nat → Int32) → MS → Option (Int32 × MS)} (hX : ∀ e m b L (σ : MS), ks w σ → Ks w (X e m b L σ)) (k d b : Nat) (L : Nat → Int32) (σ : MS) (h : ks w σ) : Ks w (s_eval X k d b L σ) := by
  match b with
  | 0 => exact hX _ _ _ _ _ h
  | 1 => exact Ks_ite (Ks_ob (ks_isOver _ _ _ _ h) (fun _ h370 => Ks_ite (hX _ _ _ _ _ h370) (Ks_ite (hX _ _ _ _ _ h370) (Ks_no)))) (Ks_no)
  | 2 => exact Ks_od (fun _ => Ks_ob (hX _ _ _ _ _ h) (fun _ h371 => hX _ _ _ _ _ h371))
  | 3 => exact Ks_ite (hX _ _ _ _ _ h) (Ks_ite (Ks_ite (Ks_od (fun _ => Ks_ob (hX _ _ _ _ _ h) (fun _ h372 => hX _ _ _ _ _ h372))) (Ks_no)) (hX _ _ _ _ _ h))
  | 4 => exact Ks_so h
  | b + 5 => exact Ks_no
theorem ks_s_former {X : Nat → Nat → Nat → (Nat → Int32) → MS → Option (Int32 × MS)} (hX : ∀ e m b L (σ : MS), ks w σ → Ks w (X e m b L σ)) (k d b : Nat) (L : Nat → Int32) (σ : MS) (h : ks w σ) : Ks w (s_former X k d b L σ) := by
  match b with
  | 0 => exact Ks_ite (Ks_od (fun _ => Ks_ob (hX _ _ _ _ _ h) (fun _ h373 => hX _ _ _ _ _ h373))) (Ks_no)
  | 1 => exact Ks_ite (hX _ _ _ _ _ h) (Ks_ite (Ks_ite (Ks_ite (hX _ _ _ _ _ h) (Ks_ite (Ks_od (fun _ => Ks_ob (hX _ _ _ _ _ h) (fun _ h374 => Ks_ite (hX _ _ _ _ _ h374) (hX _ _ _ _ _ h374)))) (Ks_no))) (Ks_no)) (hX _ _ _ _ _ h))
  | 2 => exact Ks_ite (Ks_od (fun _ => Ks_ob (hX _ _ _ _ _ h) (fun _ h375 => Ks_ite (Ks_ite (Ks_ite (Ks_ite (Ks_ite (Ks_ob (ks_fail _ _ _ _ h375) (fun _ h376 => hX _ _ _ _ _ h376)) (hX _ _ _ _ _ h375)) (Ks_no)) (hX _ _ _ _ _ h375)) (Ks_no)) (hX _ _ _ _ _ h375)))) (Ks_no)
  | 3 => exact Ks_ite (Ks_ite (Ks_od (fun _ => Ks_ob (hX _ _ _ _ _ h) (fun _ h377 => Ks_ite (hX _ _ _ _ _ h377) (hX _ _ _ _ _ h377)))) (Ks_no)) (hX _ _ _ _ _ h)
  | 4 => exact hX _ _ _ _ _ h
  | 5 => exact hX _ _ _ _ _ h
  | 6 => exact hX _ _ _ _ _ h
  | 7 => exact Ks_ite (Ks_ob (ks_clear _ _ _ _ h) (fun _ h378 => Ks_ite (Ks_ite (Ks_ite (Ks_ob (ks_setOf _ _ _ _ h378) (fun _ h379 => hX _ _ _ _ _ h379)) (hX _ _ _ _ _ h378)) (Ks_no)) (hX _ _ _ _ _ h378))) (Ks_no)
  | 8 => exact Ks_ob (ks_tupleOf _ _ _ _ h) (fun _ h380 => hX _ _ _ _ _ h380)
  | 9 => exact Ks_ob (ks_answer _ _ _ _ h) (fun _ h381 => Ks_ob (ks_push _ _ _ _ h381) (fun _ h382 => hX _ _ _ _ _ h382))
  | 10 => exact Ks_so h
  | b + 11 => exact Ks_no
theorem ks_s_goOn {X : Nat → Nat → Nat → (Nat → Int32) → MS → Option (Int32 × MS)} (hX : ∀ e m b L (σ : MS), ks w σ → Ks w (X e m b L σ)) (k d b : Nat) (L : Nat → Int32) (σ : MS) (h : ks w σ) : Ks w (s_goOn X k d b L σ) := by
  match b with
  | 0 => exact hX _ _ _ _ _ h
  | 1 => exact Ks_ite (Ks_ob (ks_sweep _ _ _ _ h) (fun _ h383 => Ks_ite (hX _ _ _ _ _ h383) (Ks_ite (hX _ _ _ _ _ h383) (hX _ _ _ _ _ h383)))) (hX _ _ _ _ _ h)
  | 2 => exact Ks_ite (Ks_ite (hX _ _ _ _ _ h) (Ks_no)) (Ks_no)
  | 3 => exact Ks_ite (Ks_so h) (hX _ _ _ _ _ h)
  | 4 => exact Ks_od (fun _ => Ks_ob (hX _ _ _ _ _ h) (fun _ h384 => Ks_ite (hX _ _ _ _ _ h384) (Ks_so h384)))
  | 5 => exact Ks_ite (hX _ _ _ _ _ h) (Ks_no)
  | 6 => exact Ks_ite (Ks_so h) (hX _ _ _ _ _ h)
  | 7 => exact Ks_ite (Ks_ob (ks_stepIter _ _ _ _ h) (fun _ h385 => Ks_ite (Ks_ite (hX _ _ _ _ _ h385) (hX _ _ _ _ _ h385)) (hX _ _ _ _ _ h385))) (Ks_no)
  | 8 => exact Ks_ite (hX _ _ _ _ _ h) (Ks_ite (Ks_ite (Ks_ite (Ks_so h) (hX _ _ _ _ _ h)) (Ks_no)) (Ks_no))
  | 9 => exact Ks_so h
  | b + 10 => exact Ks_no
theorem ks_s_goesOn {X : Nat → Nat → Nat → (Nat → Int32) → MS → Option (Int32 × MS)} (hX : ∀ e m b L (σ : MS), ks w σ → Ks w (X e m b L σ)) (k d b : Nat) (L : Nat → Int32) (σ : MS) (h : ks w σ) : Ks w (s_goesOn X k d b L σ) := by
  match b with
  | 0 => exact Ks_ite (Ks_ite (Ks_so h) (hX _ _ _ _ _ h)) (Ks_no)
  | 1 => exact Ks_ite (hX _ _ _ _ _ h) (Ks_ite (hX _ _ _ _ _ h) (hX _ _ _ _ _ h))
  | 2 => exact Ks_ob (ks_isTrue _ _ _ _ h) (fun _ h386 => Ks_ite (Ks_ite (hX _ _ _ _ _ h386) (hX _ _ _ _ _ h386)) (hX _ _ _ _ _ h386))
  | 3 => exact hX _ _ _ _ _ h
  | 4 => exact Ks_ite (Ks_ite (Ks_od (fun _ => Ks_ob (hX _ _ _ _ _ h) (fun _ h387 => Ks_ite (Ks_ob (ks_isTrue _ _ _ _ h387) (fun _ h388 => Ks_ite (hX _ _ _ _ _ h388) (hX _ _ _ _ _ h388))) (hX _ _ _ _ _ h387)))) (Ks_no)) (hX _ _ _ _ _ h)
  | 5 => exact hX _ _ _ _ _ h
  | 6 => exact hX _ _ _ _ _ h
  | 7 => exact Ks_ob (ks_truth _ _ _ _ h) (fun _ h389 => Ks_ob (ks_answer _ _ _ _ h389) (fun _ h390 => Ks_ob (ks_push _ _ _ _ h390) (fun _ h391 => Ks_so h391)))
  | 8 => exact Ks_ite (Ks_od (fun _ => Ks_ob (hX _ _ _ _ _ h) (fun _ h392 => Ks_ite (Ks_ite (Ks_ite (Ks_od (fun _ => Ks_ob (hX _ _ _ _ _ h392) (fun _ h393 => hX _ _ _ _ _ h393))) (Ks_no)) (hX _ _ _ _ _ h392)) (hX _ _ _ _ _ h392)))) (Ks_no)
  | 9 => exact Ks_ite (hX _ _ _ _ _ h) (Ks_so h)
  | 10 => exact Ks_ob (ks_sweep _ _ _ _ h) (fun _ h394 => Ks_ite (hX _ _ _ _ _ h394) (hX _ _ _ _ _ h394))
  | 11 => exact hX _ _ _ _ _ h
  | 12 => exact hX _ _ _ _ _ h
  | 13 => exact Ks_ite (Ks_ite (Ks_ite (hX _ _ _ _ _ h) (Ks_ite (hX _ _ _ _ _ h) (Ks_ite (hX _ _ _ _ _ h) (hX _ _ _ _ _ h)))) (Ks_no)) (Ks_no)
  | 14 => exact Ks_ite (Ks_ob (ks_slice _ _ _ _ h) (fun _ h395 => hX _ _ _ _ _ h395)) (Ks_no)
  | 15 => exact Ks_ob (ks_partAt _ _ _ _ h) (fun _ h396 => hX _ _ _ _ _ h396)
  | 16 => exact Ks_ob (ks_image _ _ _ _ h) (fun _ h397 => hX _ _ _ _ _ h397)
  | 17 => exact Ks_ite (Ks_ob (ks_operate _ _ _ _ h) (fun _ h398 => hX _ _ _ _ _ h398)) (Ks_no)
  | 18 => exact Ks_ob (ks_answer _ _ _ _ h) (fun _ h399 => Ks_ob (ks_push _ _ _ _ h399) (fun _ h400 => Ks_so h400))
  | b + 19 => exact Ks_no
theorem ks_s_holds {X : Nat → Nat → Nat → (Nat → Int32) → MS → Option (Int32 × MS)} (hX : ∀ e m b L (σ : MS), ks w σ → Ks w (X e m b L σ)) (k d b : Nat) (L : Nat → Int32) (σ : MS) (h : ks w σ) : Ks w (s_holds X k d b L σ) := by
  match b with
  | 0 => exact Ks_od (fun _ => Ks_ob (hX _ _ _ _ _ h) (fun _ h401 => Ks_ite (Ks_ob (ks_isTrue _ _ _ _ h401) (fun _ h402 => Ks_ite (hX _ _ _ _ _ h402) (hX _ _ _ _ _ h402))) (hX _ _ _ _ _ h401)))
  | 1 => exact hX _ _ _ _ _ h
  | 2 => exact Ks_ite (Ks_so h) (Ks_no)
  | b + 3 => exact Ks_no
theorem ks_s_openIter {X : Nat → Nat → Nat → (Nat → Int32) → MS → Option (Int32 × MS)} (hX : ∀ e m b L (σ : MS), ks w σ → Ks w (X e m b L σ)) (k d b : Nat) (L : Nat → Int32) (σ : MS) (h : ks w σ) : Ks w (s_openIter X k d b L σ) := by
  match b with
  | 0 => exact Ks_ite (Ks_od (fun _ => Ks_ob (hX _ _ _ _ _ h) (fun _ h403 => Ks_ite (hX _ _ _ _ _ h403) (Ks_so h403)))) (Ks_no)
  | 1 => exact Ks_ob (ks_pop _ _ _ _ h) (fun _ h404 => Ks_ob (ks_isRow _ _ _ _ h404) (fun _ h405 => Ks_ite (Ks_ob (ks_fail _ _ _ _ h405) (fun _ h406 => Ks_so h406)) (hX _ _ _ _ _ h405)))
  | 2 => exact Ks_ite (hX _ _ _ _ _ h) (Ks_no)
  | 3 => exact Ks_ite (hX _ _ _ _ _ h) (Ks_no)
  | 4 => exact Ks_so h
  | b + 5 => exact Ks_no
theorem ks_s_quantify {X : Nat → Nat → Nat → (Nat → Int32) → MS → Option (Int32 × MS)} (hX : ∀ e m b L (σ : MS), ks w σ → Ks w (X e m b L σ)) (k d b : Nat) (L : Nat → Int32) (σ : MS) (h : ks w σ) : Ks w (s_quantify X k d b L σ) := by
  match b with
  | 0 => exact Ks_ite (Ks_ite (hX _ _ _ _ _ h) (hX _ _ _ _ _ h)) (Ks_no)
  | 1 => exact hX _ _ _ _ _ h
  | 2 => exact Ks_ite (Ks_od (fun _ => Ks_ob (hX _ _ _ _ _ h) (fun _ h407 => hX _ _ _ _ _ h407))) (Ks_no)
  | 3 => exact Ks_ite (hX _ _ _ _ _ h) (Ks_ite (Ks_ite (Ks_od (fun _ => Ks_ob (hX _ _ _ _ _ h) (fun _ h408 => Ks_ite (Ks_ite (hX _ _ _ _ _ h408) (hX _ _ _ _ _ h408)) (hX _ _ _ _ _ h408)))) (Ks_no)) (hX _ _ _ _ _ h))
  | 4 => exact hX _ _ _ _ _ h
  | 5 => exact Ks_ite (Ks_ite (Ks_ite (Ks_od (fun _ => Ks_ob (hX _ _ _ _ _ h) (fun _ h409 => Ks_ite (hX _ _ _ _ _ h409) (hX _ _ _ _ _ h409)))) (Ks_no)) (hX _ _ _ _ _ h)) (hX _ _ _ _ _ h)
  | 6 => exact hX _ _ _ _ _ h
  | 7 => exact hX _ _ _ _ _ h
  | 8 => exact hX _ _ _ _ _ h
  | 9 => exact Ks_ite (Ks_ob (ks_clear _ _ _ _ h) (fun _ h410 => Ks_ite (Ks_ite (hX _ _ _ _ _ h410) (hX _ _ _ _ _ h410)) (hX _ _ _ _ _ h410))) (Ks_no)
  | 10 => exact hX _ _ _ _ _ h
  | 11 => exact Ks_ob (ks_truth _ _ _ _ h) (fun _ h411 => Ks_ob (ks_answer _ _ _ _ h411) (fun _ h412 => Ks_ob (ks_push _ _ _ _ h412) (fun _ h413 => hX _ _ _ _ _ h413)))
  | 12 => exact Ks_so h
  | b + 13 => exact Ks_no
theorem ks_s_setBrackets {X : Nat → Nat → Nat → (Nat → Int32) → MS → Option (Int32 × MS)} (hX : ∀ e m b L (σ : MS), ks w σ → Ks w (X e m b L σ)) (k d b : Nat) (L : Nat → Int32) (σ : MS) (h : ks w σ) : Ks w (s_setBrackets X k d b L σ) := by
  match b with
  | 0 => exact Ks_ite (hX _ _ _ _ _ h) (Ks_no)
  | 1 => exact Ks_ite (hX _ _ _ _ _ h) (Ks_ite (Ks_od (fun _ => Ks_ob (hX _ _ _ _ _ h) (fun _ h414 => Ks_ite (Ks_ite (Ks_ite (hX _ _ _ _ _ h414) (hX _ _ _ _ _ h414)) (Ks_no)) (hX _ _ _ _ _ h414)))) (hX _ _ _ _ _ h))
  | 2 => exact Ks_ite (hX _ _ _ _ _ h) (hX _ _ _ _ _ h)
  | 3 => exact hX _ _ _ _ _ h
  | 4 => exact hX _ _ _ _ _ h
  | 5 => exact Ks_ite (Ks_ite (Ks_ite (hX _ _ _ _ _ h) (hX _ _ _ _ _ h)) (hX _ _ _ _ _ h)) (hX _ _ _ _ _ h)
  | 6 => exact hX _ _ _ _ _ h
  | 7 => exact Ks_ite (Ks_ob (ks_distinct _ _ _ _ h) (fun _ h415 => hX _ _ _ _ _ h415)) (hX _ _ _ _ _ h)
  | 8 => exact Ks_ite (hX _ _ _ _ _ h) (Ks_ite (Ks_ob (ks_size _ _ _ _ h) (fun _ h416 => hX _ _ _ _ _ h416)) (Ks_no))
  | 9 => exact Ks_ite (hX _ _ _ _ _ h) (hX _ _ _ _ _ h)
  | 10 => exact hX _ _ _ _ _ h
  | 11 => exact Ks_ite (hX _ _ _ _ _ h) (hX _ _ _ _ _ h)
  | 12 => exact hX _ _ _ _ _ h
  | 13 => exact hX _ _ _ _ _ h
  | 14 => exact Ks_ite (hX _ _ _ _ _ h) (Ks_no)
  | 15 => exact Ks_ite (Ks_ite (hX _ _ _ _ _ h) (Ks_ob (ks_fail _ _ _ _ h) (fun _ h417 => hX _ _ _ _ _ h417))) (hX _ _ _ _ _ h)
  | 16 => exact Ks_ite (Ks_ite (hX _ _ _ _ _ h) (Ks_ob (ks_fail _ _ _ _ h) (fun _ h418 => hX _ _ _ _ _ h418))) (hX _ _ _ _ _ h)
  | 17 => exact Ks_ite (Ks_ob (ks_sweep _ _ _ _ h) (fun _ h419 => Ks_ob (ks_setOf _ _ _ _ h419) (fun _ h420 => Ks_ob (ks_answer _ _ _ _ h420) (fun _ h421 => Ks_ob (ks_push _ _ _ _ h421) (fun _ h422 => hX _ _ _ _ _ h422))))) (hX _ _ _ _ _ h)
  | 18 => exact Ks_so h
  | b + 19 => exact Ks_no
theorem ks_s_tupleBrackets {X : Nat → Nat → Nat → (Nat → Int32) → MS → Option (Int32 × MS)} (hX : ∀ e m b L (σ : MS), ks w σ → Ks w (X e m b L σ)) (k d b : Nat) (L : Nat → Int32) (σ : MS) (h : ks w σ) : Ks w (s_tupleBrackets X k d b L σ) := by
  match b with
  | 0 => exact Ks_ite (hX _ _ _ _ _ h) (Ks_no)
  | 1 => exact Ks_ite (hX _ _ _ _ _ h) (Ks_ite (Ks_od (fun _ => Ks_ob (hX _ _ _ _ _ h) (fun _ h423 => Ks_ite (Ks_ob (ks_pop _ _ _ _ h423) (fun _ h424 => hX _ _ _ _ _ h424)) (hX _ _ _ _ _ h423)))) (hX _ _ _ _ _ h))
  | 2 => exact hX _ _ _ _ _ h
  | 3 => exact Ks_ite (hX _ _ _ _ _ h) (hX _ _ _ _ _ h)
  | 4 => exact Ks_ite (hX _ _ _ _ _ h) (Ks_ob (ks_size _ _ _ _ h) (fun _ h425 => hX _ _ _ _ _ h425))
  | 5 => exact Ks_ite (hX _ _ _ _ _ h) (Ks_ite (hX _ _ _ _ _ h) (Ks_ob (ks_push _ _ _ _ h) (fun _ h426 => hX _ _ _ _ _ h426)))
  | 6 => exact Ks_ob (ks_push _ _ _ _ h) (fun _ h427 => hX _ _ _ _ _ h427)
  | 7 => exact Ks_ite (hX _ _ _ _ _ h) (hX _ _ _ _ _ h)
  | 8 => exact hX _ _ _ _ _ h
  | 9 => exact hX _ _ _ _ _ h
  | 10 => exact Ks_ite (hX _ _ _ _ _ h) (Ks_no)
  | 11 => exact Ks_ite (Ks_ite (hX _ _ _ _ _ h) (Ks_ob (ks_fail _ _ _ _ h) (fun _ h428 => hX _ _ _ _ _ h428))) (hX _ _ _ _ _ h)
  | 12 => exact Ks_ite (Ks_ob (ks_sweep _ _ _ _ h) (fun _ h429 => Ks_ob (ks_tupleOf _ _ _ _ h429) (fun _ h430 => Ks_ob (ks_answer _ _ _ _ h430) (fun _ h431 => Ks_ob (ks_push _ _ _ _ h431) (fun _ h432 => hX _ _ _ _ _ h432))))) (hX _ _ _ _ _ h)
  | 13 => exact Ks_so h
  | b + 14 => exact Ks_no
theorem ks_GV : ∀ (k d m b : Nat) (L : Nat → Int32) (σ : MS), ks w σ → Ks w (x_GV k d m b L σ) := by
  intro k
  induction k with
  | zero => intro d m b L σ _; exact Ks_no
  | succ k ih =>
    intro d m b L σ h
    match m with
    | 0 => exact ks_s_begins ih k d b L σ h
    | 1 => exact ks_s_bounds ih k d b L σ h
    | 2 => exact ks_s_callFunc ih k d b L σ h
    | 3 => exact ks_s_choose ih k d b L σ h
    | 4 => exact ks_s_eval ih k d b L σ h
    | 5 => exact ks_s_former ih k d b L σ h
    | 6 => exact ks_s_goOn ih k d b L σ h
    | 7 => exact ks_s_goesOn ih k d b L σ h
    | 8 => exact ks_s_holds ih k d b L σ h
    | 9 => exact ks_s_openIter ih k d b L σ h
    | 10 => exact ks_s_quantify ih k d b L σ h
    | 11 => exact ks_s_setBrackets ih k d b L σ h
    | 12 => exact ks_s_tupleBrackets ih k d b L σ h
    | m + 13 => exact Ks_no
theorem ks_good : ∀ (k b : Nat) (L : Nat → Int32) (σ : MS), ks w σ → Ks w (x_good k b L σ) := by
  intro k
  induction k with
  | zero => intro b L σ _; exact Ks_no
  | succ k ih =>
    intro b L σ h
    match b with
    | 0 =>
      refine Ks_eq (by rw [x_good]) ?_
      exact ih _ _ _ h
    | 1 =>
      refine Ks_eq (by rw [x_good]) ?_
      exact Ks_ite (ih _ _ _ h) (ih _ _ _ h)
    | 2 =>
      refine Ks_eq (by rw [x_good]) ?_
      exact ih _ _ _ h
    | 3 =>
      refine Ks_eq (by rw [x_good]) ?_
      exact Ks_ite (Ks_so h) (Ks_no)
    | b + 4 =>
      exact Ks_eq (by rw [x_good]) Ks_no
theorem ks_dropIter : ∀ (k b : Nat) (L : Nat → Int32) (σ : MS), ks w σ → Ks w (x_dropIter k b L σ) := by
  intro k
  induction k with
  | zero => intro b L σ _; exact Ks_no
  | succ k ih =>
    intro b L σ h
    match b with
    | 0 =>
      refine Ks_eq (by rw [x_dropIter]) ?_
      exact Ks_ite (Ks_ite (ih _ _ _ h) (Ks_no)) (Ks_no)
    | 1 =>
      refine Ks_eq (by rw [x_dropIter]) ?_
      exact Ks_ite (Ks_ite (Ks_ob (ks_size _ _ _ _ h) (fun _ h433 => Ks_so h433)) (Ks_no)) (Ks_no)
    | b + 2 =>
      exact Ks_eq (by rw [x_dropIter]) Ks_no
theorem ks_closeFor : ∀ (k b : Nat) (L : Nat → Int32) (σ : MS), ks w σ → Ks w (x_closeFor k b L σ) := by
  intro k
  induction k with
  | zero => intro b L σ _; exact Ks_no
  | succ k ih =>
    intro b L σ h
    match b with
    | 0 =>
      refine Ks_eq (by rw [x_closeFor]) ?_
      exact Ks_ite (ih _ _ _ h) (Ks_no)
    | 1 =>
      refine Ks_eq (by rw [x_closeFor]) ?_
      exact Ks_ite (Ks_ite (Ks_ite (ih _ _ _ h) (Ks_ob (ks_dropIter _ _ _ _ h) (fun _ h434 => ih _ _ _ h434))) (Ks_no)) (Ks_no)
    | 2 =>
      refine Ks_eq (by rw [x_closeFor]) ?_
      exact Ks_ite (Ks_ite (ih _ _ _ h) (Ks_no)) (Ks_no)
    | 3 =>
      refine Ks_eq (by rw [x_closeFor]) ?_
      exact Ks_ite (Ks_ite (ih _ _ _ h) (Ks_no)) (Ks_no)
    | 4 =>
      refine Ks_eq (by rw [x_closeFor]) ?_
      exact Ks_ite (ih _ _ _ h) (Ks_ite (ih _ _ _ h) (Ks_no))
    | 5 =>
      refine Ks_eq (by rw [x_closeFor]) ?_
      exact Ks_ite (ih _ _ _ h) (Ks_ob (ks_valueOf _ _ _ _ h) (fun _ h435 => Ks_ob (ks_size _ _ _ _ h435) (fun _ h436 => ih _ _ _ h436)))
    | 6 =>
      refine Ks_eq (by rw [x_closeFor]) ?_
      exact Ks_ob (ks_bindOne _ _ _ _ h) (fun _ h437 => Ks_ite (ih _ _ _ h437) (Ks_no))
    | 7 =>
      refine Ks_eq (by rw [x_closeFor]) ?_
      exact Ks_ite (ih _ _ _ h) (Ks_no)
    | 8 =>
      refine Ks_eq (by rw [x_closeFor]) ?_
      exact Ks_so h
    | b + 9 =>
      exact Ks_eq (by rw [x_closeFor]) Ks_no
theorem ks_nameOf : ∀ (k b : Nat) (L : Nat → Int32) (σ : MS), ks w σ → Ks w (x_nameOf k b L σ) := by
  intro k
  induction k with
  | zero => intro b L σ _; exact Ks_no
  | succ k ih =>
    intro b L σ h
    match b with
    | 0 =>
      refine Ks_eq (by rw [x_nameOf]) ?_
      exact ih _ _ _ h
    | 1 =>
      refine Ks_eq (by rw [x_nameOf]) ?_
      exact Ks_ite (Ks_ite (ih _ _ _ h) (Ks_ite (ih _ _ _ h) (Ks_no))) (Ks_no)
    | 2 =>
      refine Ks_eq (by rw [x_nameOf]) ?_
      exact Ks_so h
    | b + 3 =>
      exact Ks_eq (by rw [x_nameOf]) Ks_no
theorem ks_eval (k b : Nat) (L : Nat → Int32) (σ : MS) (h : ks w σ) : Ks w (x_eval k b L σ) := ks_GV k 1300 4 b L σ h
theorem ks_workParts : ∀ (k b : Nat) (L : Nat → Int32) (σ : MS), ks w σ → Ks w (x_workParts k b L σ) := by
  intro k
  induction k with
  | zero => intro b L σ _; exact Ks_no
  | succ k ih =>
    intro b L σ h
    match b with
    | 0 =>
      refine Ks_eq (by rw [x_workParts]) ?_
      exact Ks_ob (ks_nameOf _ _ _ _ h) (fun _ h438 => ih _ _ _ h438)
    | 1 =>
      refine Ks_eq (by rw [x_workParts]) ?_
      exact Ks_ite (ih _ _ _ h) (Ks_ite (Ks_ite (Ks_ite (Ks_ob (ks_eval _ _ _ _ h) (fun _ h439 => Ks_ite (Ks_ite (Ks_ite (Ks_ite (Ks_ob (ks_eval _ _ _ _ h439) (fun _ h440 => ih _ _ _ h440)) (Ks_no)) (ih _ _ _ h439)) (ih _ _ _ h439)) (Ks_no))) (Ks_no)) (Ks_no)) (ih _ _ _ h))
    | 2 =>
      refine Ks_eq (by rw [x_workParts]) ?_
      exact Ks_so h
    | b + 3 =>
      exact Ks_eq (by rw [x_workParts]) Ks_no
theorem ks_keysOf : ∀ (k b : Nat) (L : Nat → Int32) (σ : MS), ks w σ → Ks w (x_keysOf k b L σ) := by
  intro k
  induction k with
  | zero => intro b L σ _; exact Ks_no
  | succ k ih =>
    intro b L σ h
    match b with
    | 0 =>
      refine Ks_eq (by rw [x_keysOf]) ?_
      exact Ks_ite (ih _ _ _ h) (ih _ _ _ h)
    | 1 =>
      refine Ks_eq (by rw [x_keysOf]) ?_
      exact Ks_ite (ih _ _ _ h) (ih _ _ _ h)
    | 2 =>
      refine Ks_eq (by rw [x_keysOf]) ?_
      exact ih _ _ _ h
    | 3 =>
      refine Ks_eq (by rw [x_keysOf]) ?_
      exact Ks_so h
    | b + 4 =>
      exact Ks_eq (by rw [x_keysOf]) Ks_no
theorem ks_readParts : ∀ (k b : Nat) (L : Nat → Int32) (σ : MS), ks w σ → Ks w (x_readParts k b L σ) := by
  intro k
  induction k with
  | zero => intro b L σ _; exact Ks_no
  | succ k ih =>
    intro b L σ h
    match b with
    | 0 =>
      refine Ks_eq (by rw [x_readParts]) ?_
      exact Ks_ob (ks_nameOf _ _ _ _ h) (fun _ h441 => Ks_ob (ks_valueOf _ _ _ _ h441) (fun _ h442 => Ks_ob (ks_push _ _ _ _ h442) (fun _ h443 => ih _ _ _ h443)))
    | 1 =>
      refine Ks_eq (by rw [x_readParts]) ?_
      exact Ks_ite (ih _ _ _ h) (Ks_ite (Ks_ite (Ks_ite (ih _ _ _ h) (ih _ _ _ h)) (Ks_no)) (ih _ _ _ h))
    | 2 =>
      refine Ks_eq (by rw [x_readParts]) ?_
      exact Ks_ite (Ks_ite (Ks_ob (ks_sweep _ _ _ _ h) (fun _ h444 => Ks_ite (Ks_ite (Ks_ite (Ks_ite (Ks_ob (ks_partAt _ _ _ _ h444) (fun _ h445 => ih _ _ _ h445)) (Ks_no)) (ih _ _ _ h444)) (Ks_no)) (Ks_no))) (Ks_no)) (ih _ _ _ h)
    | 3 =>
      refine Ks_eq (by rw [x_readParts]) ?_
      exact Ks_ite (Ks_ite (Ks_ite (Ks_ob (ks_image _ _ _ _ h) (fun _ h446 => ih _ _ _ h446)) (Ks_no)) (ih _ _ _ h)) (Ks_no)
    | 4 =>
      refine Ks_eq (by rw [x_readParts]) ?_
      exact Ks_ite (Ks_ite (Ks_ob (ks_slice _ _ _ _ h) (fun _ h447 => ih _ _ _ h447)) (Ks_no)) (Ks_no)
    | 5 =>
      refine Ks_eq (by rw [x_readParts]) ?_
      exact Ks_ob (ks_answer _ _ _ _ h) (fun _ h448 => Ks_ob (ks_push _ _ _ _ h448) (fun _ h449 => Ks_ite (Ks_ob (ks_keysOf _ _ _ _ h449) (fun _ h450 => ih _ _ _ h450)) (Ks_no)))
    | 6 =>
      refine Ks_eq (by rw [x_readParts]) ?_
      exact Ks_so h
    | b + 7 =>
      exact Ks_eq (by rw [x_readParts]) Ks_no
theorem ks_keysIn : ∀ (k b : Nat) (L : Nat → Int32) (σ : MS), ks w σ → Ks w (x_keysIn k b L σ) := by
  intro k
  induction k with
  | zero => intro b L σ _; exact Ks_no
  | succ k ih =>
    intro b L σ h
    match b with
    | 0 =>
      refine Ks_eq (by rw [x_keysIn]) ?_
      exact ih _ _ _ h
    | 1 =>
      refine Ks_eq (by rw [x_keysIn]) ?_
      exact Ks_ite (Ks_ite (ih _ _ _ h) (Ks_ite (Ks_ob (ks_keysOf _ _ _ _ h) (fun _ h451 => Ks_ite (ih _ _ _ h451) (Ks_no))) (Ks_no))) (Ks_no)
    | 2 =>
      refine Ks_eq (by rw [x_keysIn]) ?_
      exact Ks_so h
    | b + 3 =>
      exact Ks_eq (by rw [x_keysIn]) Ks_no
theorem ks_putPlace : ∀ (k b : Nat) (L : Nat → Int32) (σ : MS), ks w σ → Ks w (x_putPlace k b L σ) := by
  intro k
  induction k with
  | zero => intro b L σ _; exact Ks_no
  | succ k ih =>
    intro b L σ h
    match b with
    | 0 =>
      refine Ks_eq (by rw [x_putPlace]) ?_
      exact Ks_ite (Ks_ite (ih _ _ _ h) (Ks_ite (Ks_so h) (ih _ _ _ h))) (Ks_no)
    | 1 =>
      refine Ks_eq (by rw [x_putPlace]) ?_
      exact Ks_ite (ih _ _ _ h) (Ks_ob (ks_fail _ _ _ _ h) (fun _ h452 => Ks_so h452))
    | 2 =>
      refine Ks_eq (by rw [x_putPlace]) ?_
      exact ih _ _ _ h
    | 3 =>
      refine Ks_eq (by rw [x_putPlace]) ?_
      exact Ks_ite (ih _ _ _ h) (Ks_ite (ih _ _ _ h) (ih _ _ _ h))
    | 4 =>
      refine Ks_eq (by rw [x_putPlace]) ?_
      exact Ks_ite (ih _ _ _ h) (ih _ _ _ h)
    | 5 =>
      refine Ks_eq (by rw [x_putPlace]) ?_
      exact Ks_ite (ih _ _ _ h) (Ks_ite (ih _ _ _ h) (Ks_no))
    | 6 =>
      refine Ks_eq (by rw [x_putPlace]) ?_
      exact ih _ _ _ h
    | 7 =>
      refine Ks_eq (by rw [x_putPlace]) ?_
      exact Ks_ob (ks_push _ _ _ _ h) (fun _ h453 => ih _ _ _ h453)
    | 8 =>
      refine Ks_eq (by rw [x_putPlace]) ?_
      exact Ks_ob (ks_tupleOf _ _ _ _ h) (fun _ h454 => Ks_so h454)
    | b + 9 =>
      exact Ks_eq (by rw [x_putPlace]) Ks_no
theorem ks_pushOthers : ∀ (k b : Nat) (L : Nat → Int32) (σ : MS), ks w σ → Ks w (x_pushOthers k b L σ) := by
  intro k
  induction k with
  | zero => intro b L σ _; exact Ks_no
  | succ k ih =>
    intro b L σ h
    match b with
    | 0 =>
      refine Ks_eq (by rw [x_pushOthers]) ?_
      exact ih _ _ _ h
    | 1 =>
      refine Ks_eq (by rw [x_pushOthers]) ?_
      exact Ks_ite (Ks_ite (ih _ _ _ h) (Ks_ite (Ks_ite (Ks_ob (ks_compare _ _ _ _ h) (fun _ h455 => Ks_ite (ih _ _ _ h455) (Ks_ob (ks_push _ _ _ _ h455) (fun _ h456 => ih _ _ _ h456)))) (Ks_no)) (Ks_no))) (Ks_no)
    | 2 =>
      refine Ks_eq (by rw [x_pushOthers]) ?_
      exact ih _ _ _ h
    | 3 =>
      refine Ks_eq (by rw [x_pushOthers]) ?_
      exact Ks_so h
    | b + 4 =>
      exact Ks_eq (by rw [x_pushOthers]) Ks_no
theorem ks_pair : ∀ (k b : Nat) (L : Nat → Int32) (σ : MS), ks w σ → Ks w (x_pair k b L σ) := by
  intro k
  induction k with
  | zero => intro b L σ _; exact Ks_no
  | succ k ih =>
    intro b L σ h
    match b with
    | 0 =>
      refine Ks_eq (by rw [x_pair]) ?_
      exact Ks_ob (ks_push _ _ _ _ h) (fun _ h457 => Ks_ob (ks_push _ _ _ _ h457) (fun _ h458 => Ks_ob (ks_tupleOf _ _ _ _ h458) (fun _ h459 => Ks_so h459)))
    | b + 1 =>
      exact Ks_eq (by rw [x_pair]) Ks_no
theorem ks_putAt : ∀ (k b : Nat) (L : Nat → Int32) (σ : MS), ks w σ → Ks w (x_putAt k b L σ) := by
  intro k
  induction k with
  | zero => intro b L σ _; exact Ks_no
  | succ k ih =>
    intro b L σ h
    match b with
    | 0 =>
      refine Ks_eq (by rw [x_putAt]) ?_
      exact Ks_ob (ks_kind _ _ _ _ h) (fun _ h460 => Ks_ite (ih _ _ _ h460) (Ks_ite (ih _ _ _ h460) (ih _ _ _ h460)))
    | 1 =>
      refine Ks_eq (by rw [x_putAt]) ?_
      exact Ks_ob (ks_kind _ _ _ _ h) (fun _ h461 => Ks_ite (Ks_ite (Ks_ob (ks_kind _ _ _ _ h461) (fun _ h462 => Ks_ite (Ks_ite (Ks_ite (ih _ _ _ h462) (ih _ _ _ h462)) (Ks_no)) (ih _ _ _ h462))) (ih _ _ _ h461)) (ih _ _ _ h461))
    | 2 =>
      refine Ks_eq (by rw [x_putAt]) ?_
      exact Ks_ob (ks_wrongKind _ _ _ _ h) (fun _ h463 => Ks_so h463)
    | 3 =>
      refine Ks_eq (by rw [x_putAt]) ?_
      exact Ks_ob (ks_intOf _ _ _ _ _ h) (fun _ h464 => Ks_ite (Ks_ite (ih _ _ _ h464) (Ks_ite (Ks_ite (ih _ _ _ h464) (ih _ _ _ h464)) (ih _ _ _ h464))) (Ks_no))
    | 4 =>
      refine Ks_eq (by rw [x_putAt]) ?_
      exact Ks_ob (ks_fail _ _ _ _ h) (fun _ h465 => Ks_so h465)
    | 5 =>
      refine Ks_eq (by rw [x_putAt]) ?_
      exact Ks_ite (ih _ _ _ h) (ih _ _ _ h)
    | 6 =>
      refine Ks_eq (by rw [x_putAt]) ?_
      exact Ks_ite (ih _ _ _ h) (Ks_ite (Ks_ite (ih _ _ _ h) (Ks_no)) (Ks_no))
    | 7 =>
      refine Ks_eq (by rw [x_putAt]) ?_
      exact ih _ _ _ h
    | 8 =>
      refine Ks_eq (by rw [x_putAt]) ?_
      exact Ks_ite (Ks_ite (ih _ _ _ h) (Ks_no)) (Ks_no)
    | 9 =>
      refine Ks_eq (by rw [x_putAt]) ?_
      exact Ks_ite (ih _ _ _ h) (ih _ _ _ h)
    | 10 =>
      refine Ks_eq (by rw [x_putAt]) ?_
      exact ih _ _ _ h
    | 11 =>
      refine Ks_eq (by rw [x_putAt]) ?_
      exact Ks_ob (ks_stringOf__51 _ _ _ _ h) (fun _ h466 => Ks_so h466)
    | 12 =>
      refine Ks_eq (by rw [x_putAt]) ?_
      exact Ks_ob (ks_putPlace _ _ _ _ h) (fun _ h467 => Ks_so h467)
    | 13 =>
      refine Ks_eq (by rw [x_putAt]) ?_
      exact Ks_ob (ks_isMap _ _ _ _ h) (fun _ h468 => Ks_ite (Ks_ob (ks_wrongKind _ _ _ _ h468) (fun _ h469 => Ks_so h469)) (ih _ _ _ h468))
    | 14 =>
      refine Ks_eq (by rw [x_putAt]) ?_
      exact Ks_ob (ks_pushOthers _ _ _ _ h) (fun _ h470 => Ks_ite (ih _ _ _ h470) (Ks_ob (ks_pair _ _ _ _ h470) (fun _ h471 => Ks_ob (ks_push _ _ _ _ h471) (fun _ h472 => ih _ _ _ h472))))
    | 15 =>
      refine Ks_eq (by rw [x_putAt]) ?_
      exact Ks_ite (ih _ _ _ h) (ih _ _ _ h)
    | 16 =>
      refine Ks_eq (by rw [x_putAt]) ?_
      exact Ks_ob (ks_setOf _ _ _ _ h) (fun _ h473 => ih _ _ _ h473)
    | 17 =>
      refine Ks_eq (by rw [x_putAt]) ?_
      exact Ks_so h
    | b + 18 =>
      exact Ks_eq (by rw [x_putAt]) Ks_no
theorem ks_putImage : ∀ (k b : Nat) (L : Nat → Int32) (σ : MS), ks w σ → Ks w (x_putImage k b L σ) := by
  intro k
  induction k with
  | zero => intro b L σ _; exact Ks_no
  | succ k ih =>
    intro b L σ h
    match b with
    | 0 =>
      refine Ks_eq (by rw [x_putImage]) ?_
      exact Ks_ob (ks_isMap _ _ _ _ h) (fun _ h474 => Ks_ite (ih _ _ _ h474) (Ks_ob (ks_kind _ _ _ _ h474) (fun _ h475 => Ks_ite (ih _ _ _ h475) (ih _ _ _ h475))))
    | 1 =>
      refine Ks_eq (by rw [x_putImage]) ?_
      exact Ks_ob (ks_wrongKind _ _ _ _ h) (fun _ h476 => Ks_so h476)
    | 2 =>
      refine Ks_eq (by rw [x_putImage]) ?_
      exact Ks_ob (ks_pushOthers _ _ _ _ h) (fun _ h477 => ih _ _ _ h477)
    | 3 =>
      refine Ks_eq (by rw [x_putImage]) ?_
      exact Ks_ite (Ks_ite (ih _ _ _ h) (Ks_ite (Ks_ite (Ks_ob (ks_pair _ _ _ _ h) (fun _ h478 => Ks_ob (ks_push _ _ _ _ h478) (fun _ h479 => ih _ _ _ h479))) (Ks_no)) (ih _ _ _ h))) (Ks_no)
    | 4 =>
      refine Ks_eq (by rw [x_putImage]) ?_
      exact Ks_ite (ih _ _ _ h) (ih _ _ _ h)
    | 5 =>
      refine Ks_eq (by rw [x_putImage]) ?_
      exact Ks_ob (ks_setOf _ _ _ _ h) (fun _ h480 => ih _ _ _ h480)
    | 6 =>
      refine Ks_eq (by rw [x_putImage]) ?_
      exact Ks_so h
    | b + 7 =>
      exact Ks_eq (by rw [x_putImage]) Ks_no
theorem ks_putSlice : ∀ (k b : Nat) (L : Nat → Int32) (σ : MS), ks w σ → Ks w (x_putSlice k b L σ) := by
  intro k
  induction k with
  | zero => intro b L σ _; exact Ks_no
  | succ k ih =>
    intro b L σ h
    match b with
    | 0 =>
      refine Ks_eq (by rw [x_putSlice]) ?_
      exact Ks_ob (ks_isSlice _ _ _ _ h) (fun _ h481 => Ks_ite (Ks_so h481) (ih _ _ _ h481))
    | 1 =>
      refine Ks_eq (by rw [x_putSlice]) ?_
      exact Ks_ob (ks_kind _ _ _ _ h) (fun _ h482 => Ks_ob (ks_kind _ _ _ _ h482) (fun _ h483 => Ks_ite (ih _ _ _ h483) (Ks_ob (ks_wrongKind _ _ _ _ h483) (fun _ h484 => Ks_so h484))))
    | 2 =>
      refine Ks_eq (by rw [x_putSlice]) ?_
      exact Ks_ob (ks_isSliceIn _ _ _ _ h) (fun _ h485 => Ks_ite (Ks_so h485) (ih _ _ _ h485))
    | 3 =>
      refine Ks_eq (by rw [x_putSlice]) ?_
      exact Ks_ite (Ks_ite (Ks_ite (Ks_ite (ih _ _ _ h) (ih _ _ _ h)) (Ks_no)) (Ks_no)) (Ks_no)
    | 4 =>
      refine Ks_eq (by rw [x_putSlice]) ?_
      exact Ks_ite (ih _ _ _ h) (Ks_ite (Ks_ite (ih _ _ _ h) (Ks_no)) (Ks_no))
    | 5 =>
      refine Ks_eq (by rw [x_putSlice]) ?_
      exact ih _ _ _ h
    | 6 =>
      refine Ks_eq (by rw [x_putSlice]) ?_
      exact ih _ _ _ h
    | 7 =>
      refine Ks_eq (by rw [x_putSlice]) ?_
      exact Ks_ite (ih _ _ _ h) (Ks_ite (Ks_ite (ih _ _ _ h) (Ks_no)) (Ks_no))
    | 8 =>
      refine Ks_eq (by rw [x_putSlice]) ?_
      exact ih _ _ _ h
    | 9 =>
      refine Ks_eq (by rw [x_putSlice]) ?_
      exact ih _ _ _ h
    | 10 =>
      refine Ks_eq (by rw [x_putSlice]) ?_
      exact Ks_ite (ih _ _ _ h) (Ks_ite (Ks_ite (ih _ _ _ h) (Ks_no)) (Ks_no))
    | 11 =>
      refine Ks_eq (by rw [x_putSlice]) ?_
      exact ih _ _ _ h
    | 12 =>
      refine Ks_eq (by rw [x_putSlice]) ?_
      exact Ks_ob (ks_stringOf__51 _ _ _ _ h) (fun _ h486 => Ks_so h486)
    | 13 =>
      refine Ks_eq (by rw [x_putSlice]) ?_
      exact ih _ _ _ h
    | 14 =>
      refine Ks_eq (by rw [x_putSlice]) ?_
      exact Ks_ite (ih _ _ _ h) (Ks_ite (Ks_ob (ks_push _ _ _ _ h) (fun _ h487 => ih _ _ _ h487)) (Ks_no))
    | 15 =>
      refine Ks_eq (by rw [x_putSlice]) ?_
      exact ih _ _ _ h
    | 16 =>
      refine Ks_eq (by rw [x_putSlice]) ?_
      exact Ks_ite (ih _ _ _ h) (Ks_ite (Ks_ob (ks_push _ _ _ _ h) (fun _ h488 => ih _ _ _ h488)) (Ks_no))
    | 17 =>
      refine Ks_eq (by rw [x_putSlice]) ?_
      exact ih _ _ _ h
    | 18 =>
      refine Ks_eq (by rw [x_putSlice]) ?_
      exact Ks_ite (ih _ _ _ h) (Ks_ite (Ks_ob (ks_push _ _ _ _ h) (fun _ h489 => ih _ _ _ h489)) (Ks_no))
    | 19 =>
      refine Ks_eq (by rw [x_putSlice]) ?_
      exact Ks_ob (ks_tupleOf _ _ _ _ h) (fun _ h490 => Ks_so h490)
    | b + 20 =>
      exact Ks_eq (by rw [x_putSlice]) Ks_no
theorem ks_assign : ∀ (k b : Nat) (L : Nat → Int32) (σ : MS), ks w σ → Ks w (x_assign k b L σ) := by
  intro k
  induction k with
  | zero => intro b L σ _; exact Ks_no
  | succ k ih =>
    intro b L σ h
    match b with
    | 0 =>
      refine Ks_eq (by rw [x_assign]) ?_
      exact Ks_ite (ih _ _ _ h) (Ks_so h)
    | 1 =>
      refine Ks_eq (by rw [x_assign]) ?_
      exact Ks_ob (ks_valueOf _ _ _ _ h) (fun _ h491 => Ks_ob (ks_size _ _ _ _ h491) (fun _ h492 => Ks_ob (ks_size _ _ _ _ h492) (fun _ h493 => Ks_ite (ih _ _ _ h493) (Ks_ob (ks_fail _ _ _ _ h493) (fun _ h494 => Ks_so h494)))))
    | 2 =>
      refine Ks_eq (by rw [x_assign]) ?_
      exact Ks_ob (ks_size _ _ _ _ h) (fun _ h495 => ih _ _ _ h495)
    | 3 =>
      refine Ks_eq (by rw [x_assign]) ?_
      exact Ks_ob (ks_bindOne _ _ _ _ h) (fun _ h496 => Ks_so h496)
    | b + 4 =>
      exact Ks_eq (by rw [x_assign]) Ks_no
theorem ks_write : ∀ (k b : Nat) (L : Nat → Int32) (σ : MS), ks w σ → Ks w (x_write k b L σ) := by
  intro k
  induction k with
  | zero => intro b L σ _; exact Ks_no
  | succ k ih =>
    intro b L σ h
    match b with
    | 0 =>
      refine Ks_eq (by rw [x_write]) ?_
      exact Ks_ite (ih _ _ _ h) (Ks_so h)
    | 1 =>
      refine Ks_eq (by rw [x_write]) ?_
      exact Ks_ob (ks_readParts _ _ _ _ h) (fun _ h497 => Ks_ob (ks_keysIn _ _ _ _ h497) (fun _ h498 => Ks_ite (Ks_ob (ks_push _ _ _ _ h498) (fun _ h499 => ih _ _ _ h499)) (Ks_no)))
    | 2 =>
      refine Ks_eq (by rw [x_write]) ?_
      exact Ks_ite (Ks_ite (ih _ _ _ h) (Ks_ite (Ks_ite (Ks_ob (ks_keysOf _ _ _ _ h) (fun _ h500 => Ks_ob (ks_sweep _ _ _ _ h500) (fun _ h501 => Ks_ite (Ks_ite (Ks_ite (Ks_ite (Ks_ite (Ks_ob (ks_putAt _ _ _ _ h501) (fun _ h502 => ih _ _ _ h502)) (Ks_no)) (Ks_no)) (ih _ _ _ h501)) (Ks_no)) (Ks_no)))) (Ks_no)) (ih _ _ _ h))) (Ks_no)
    | 3 =>
      refine Ks_eq (by rw [x_write]) ?_
      exact Ks_ite (Ks_ite (Ks_ite (Ks_ite (Ks_ob (ks_putImage _ _ _ _ h) (fun _ h503 => ih _ _ _ h503)) (Ks_no)) (Ks_no)) (ih _ _ _ h)) (Ks_no)
    | 4 =>
      refine Ks_eq (by rw [x_write]) ?_
      exact Ks_ite (Ks_ite (Ks_ite (Ks_ob (ks_putSlice _ _ _ _ h) (fun _ h504 => ih _ _ _ h504)) (Ks_no)) (Ks_no)) (Ks_no)
    | 5 =>
      refine Ks_eq (by rw [x_write]) ?_
      exact Ks_ob (ks_answer _ _ _ _ h) (fun _ h505 => Ks_ite (ih _ _ _ h505) (Ks_no))
    | 6 =>
      refine Ks_eq (by rw [x_write]) ?_
      exact Ks_ite (ih _ _ _ h) (Ks_no)
    | 7 =>
      refine Ks_eq (by rw [x_write]) ?_
      exact ih _ _ _ h
    | 8 =>
      refine Ks_eq (by rw [x_write]) ?_
      exact Ks_ite (Ks_ite (Ks_ob (ks_assign _ _ _ _ h) (fun _ h506 => ih _ _ _ h506)) (Ks_no)) (ih _ _ _ h)
    | 9 =>
      refine Ks_eq (by rw [x_write]) ?_
      exact Ks_so h
    | b + 10 =>
      exact Ks_eq (by rw [x_write]) Ks_no
theorem ks_writeWorked : ∀ (k b : Nat) (L : Nat → Int32) (σ : MS), ks w σ → Ks w (x_writeWorked k b L σ) := by
  intro k
  induction k with
  | zero => intro b L σ _; exact Ks_no
  | succ k ih =>
    intro b L σ h
    match b with
    | 0 =>
      refine Ks_eq (by rw [x_writeWorked]) ?_
      exact Ks_ob (ks_workParts _ _ _ _ h) (fun _ h507 => Ks_ob (ks_write _ _ _ _ h507) (fun _ h508 => Ks_so h508))
    | b + 1 =>
      exact Ks_eq (by rw [x_writeWorked]) Ks_no
theorem ks_giveBack : ∀ (k b : Nat) (L : Nat → Int32) (σ : MS), ks w σ → Ks w (x_giveBack k b L σ) := by
  intro k
  induction k with
  | zero => intro b L σ _; exact Ks_no
  | succ k ih =>
    intro b L σ h
    match b with
    | 0 =>
      refine Ks_eq (by rw [x_giveBack]) ?_
      exact Ks_ite (Ks_ite (Ks_ite (ih _ _ _ h) (Ks_no)) (Ks_no)) (Ks_no)
    | 1 =>
      refine Ks_eq (by rw [x_giveBack]) ?_
      exact Ks_ite (Ks_ite (Ks_ite (ih _ _ _ h) (Ks_ob (ks_closeFor _ _ _ _ h) (fun _ h509 => ih _ _ _ h509))) (Ks_no)) (Ks_no)
    | 2 =>
      refine Ks_eq (by rw [x_giveBack]) ?_
      exact ih _ _ _ h
    | 3 =>
      refine Ks_eq (by rw [x_giveBack]) ?_
      exact Ks_ite (Ks_ite (ih _ _ _ h) (Ks_ite (Ks_ob (ks_push _ _ _ _ h) (fun _ h510 => ih _ _ _ h510)) (Ks_no))) (Ks_no)
    | 4 =>
      refine Ks_eq (by rw [x_giveBack]) ?_
      exact Ks_ob (ks_push _ _ _ _ h) (fun _ h511 => ih _ _ _ h511)
    | 5 =>
      refine Ks_eq (by rw [x_giveBack]) ?_
      exact Ks_ite (Ks_ite (ih _ _ _ h) (Ks_ite (Ks_ite (ih _ _ _ h) (Ks_ite (Ks_ob (ks_size _ _ _ _ h) (fun _ h512 => ih _ _ _ h512)) (Ks_no))) (Ks_no))) (Ks_no)
    | 6 =>
      refine Ks_eq (by rw [x_giveBack]) ?_
      exact ih _ _ _ h
    | 7 =>
      refine Ks_eq (by rw [x_giveBack]) ?_
      exact ih _ _ _ h
    | 8 =>
      refine Ks_eq (by rw [x_giveBack]) ?_
      exact ih _ _ _ h
    | 9 =>
      refine Ks_eq (by rw [x_giveBack]) ?_
      exact Ks_ite (Ks_ite (ih _ _ _ h) (Ks_no)) (Ks_no)
    | 10 =>
      refine Ks_eq (by rw [x_giveBack]) ?_
      exact Ks_ite (ih _ _ _ h) (Ks_no)
    | 11 =>
      refine Ks_eq (by rw [x_giveBack]) ?_
      exact Ks_ite (ih _ _ _ h) (Ks_ite (Ks_ite (Ks_ite (ih _ _ _ h) (Ks_ob (ks_writeWorked _ _ _ _ h) (fun _ h513 => ih _ _ _ h513))) (Ks_no)) (ih _ _ _ h))
    | 12 =>
      refine Ks_eq (by rw [x_giveBack]) ?_
      exact Ks_ite (ih _ _ _ h) (Ks_no)
    | 13 =>
      refine Ks_eq (by rw [x_giveBack]) ?_
      exact Ks_ite (Ks_ite (Ks_ite (ih _ _ _ h) (Ks_ite (Ks_ite (Ks_ob (ks_writeWorked _ _ _ _ h) (fun _ h514 => ih _ _ _ h514)) (Ks_no)) (Ks_no))) (Ks_no)) (ih _ _ _ h)
    | 14 =>
      refine Ks_eq (by rw [x_giveBack]) ?_
      exact ih _ _ _ h
    | 15 =>
      refine Ks_eq (by rw [x_giveBack]) ?_
      exact Ks_ite (ih _ _ _ h) (ih _ _ _ h)
    | 16 =>
      refine Ks_eq (by rw [x_giveBack]) ?_
      exact ih _ _ _ h
    | 17 =>
      refine Ks_eq (by rw [x_giveBack]) ?_
      exact Ks_so h
    | b + 18 =>
      exact Ks_eq (by rw [x_giveBack]) Ks_no
theorem ks_iterOf : ∀ (k b : Nat) (L : Nat → Int32) (σ : MS), ks w σ → Ks w (x_iterOf k b L σ) := by
  intro k
  induction k with
  | zero => intro b L σ _; exact Ks_no
  | succ k ih =>
    intro b L σ h
    match b with
    | 0 =>
      refine Ks_eq (by rw [x_iterOf]) ?_
      exact Ks_ite (ih _ _ _ h) (Ks_no)
    | 1 =>
      refine Ks_eq (by rw [x_iterOf]) ?_
      exact Ks_ite (ih _ _ _ h) (Ks_ite (ih _ _ _ h) (Ks_no))
    | 2 =>
      refine Ks_eq (by rw [x_iterOf]) ?_
      exact Ks_so h
    | b + 3 =>
      exact Ks_eq (by rw [x_iterOf]) Ks_no
theorem ks_openFor : ∀ (k b : Nat) (L : Nat → Int32) (σ : MS), ks w σ → Ks w (x_openFor k b L σ) := by
  intro k
  induction k with
  | zero => intro b L σ _; exact Ks_no
  | succ k ih =>
    intro b L σ h
    match b with
    | 0 =>
      refine Ks_eq (by rw [x_openFor]) ?_
      exact Ks_ite (Ks_ob (ks_eval _ _ _ _ h) (fun _ h515 => Ks_ite (ih _ _ _ h515) (Ks_so h515))) (Ks_no)
    | 1 =>
      refine Ks_eq (by rw [x_openFor]) ?_
      exact Ks_ob (ks_pop _ _ _ _ h) (fun _ h516 => Ks_ob (ks_isRow _ _ _ _ h516) (fun _ h517 => Ks_ite (Ks_ob (ks_fail _ _ _ _ h517) (fun _ h518 => Ks_so h518)) (ih _ _ _ h517)))
    | 2 =>
      refine Ks_eq (by rw [x_openFor]) ?_
      exact Ks_ob (ks_size _ _ _ _ h) (fun _ h519 => Ks_ite (ih _ _ _ h519) (Ks_ob (ks_fail _ _ _ _ h519) (fun _ h520 => Ks_so h520)))
    | 3 =>
      refine Ks_eq (by rw [x_openFor]) ?_
      exact Ks_ob (ks_size _ _ _ _ h) (fun _ h521 => ih _ _ _ h521)
    | 4 =>
      refine Ks_eq (by rw [x_openFor]) ?_
      exact Ks_ite (Ks_ite (ih _ _ _ h) (Ks_no)) (Ks_no)
    | 5 =>
      refine Ks_eq (by rw [x_openFor]) ?_
      exact Ks_ite (Ks_ite (ih _ _ _ h) (Ks_no)) (Ks_no)
    | 6 =>
      refine Ks_eq (by rw [x_openFor]) ?_
      exact Ks_ite (Ks_ite (Ks_so h) (Ks_no)) (Ks_no)
    | b + 7 =>
      exact Ks_eq (by rw [x_openFor]) Ks_no
theorem ks_stepFor : ∀ (k b : Nat) (L : Nat → Int32) (σ : MS), ks w σ → Ks w (x_stepFor k b L σ) := by
  intro k
  induction k with
  | zero => intro b L σ _; exact Ks_no
  | succ k ih =>
    intro b L σ h
    match b with
    | 0 =>
      refine Ks_eq (by rw [x_stepFor]) ?_
      exact Ks_ite (Ks_ite (Ks_ite (Ks_ite (Ks_ite (Ks_so h) (ih _ _ _ h)) (Ks_no)) (Ks_no)) (Ks_no)) (Ks_no)
    | 1 =>
      refine Ks_eq (by rw [x_stepFor]) ?_
      exact Ks_ite (ih _ _ _ h) (Ks_no)
    | 2 =>
      refine Ks_eq (by rw [x_stepFor]) ?_
      exact Ks_ob (ks_worked _ _ _ _ h) (fun _ h522 => Ks_ite (ih _ _ _ h522) (Ks_so h522))
    | 3 =>
      refine Ks_eq (by rw [x_stepFor]) ?_
      exact Ks_ob (ks_memberAt _ _ _ _ h) (fun _ h523 => Ks_ite (Ks_ite (Ks_ite (Ks_ob (ks_assign _ _ _ _ h523) (fun _ h524 => Ks_ite (ih _ _ _ h524) (ih _ _ _ h524))) (Ks_no)) (ih _ _ _ h523)) (Ks_no))
    | 4 =>
      refine Ks_eq (by rw [x_stepFor]) ?_
      exact ih _ _ _ h
    | 5 =>
      refine Ks_eq (by rw [x_stepFor]) ?_
      exact Ks_ite (Ks_so h) (Ks_no)
    | 6 =>
      refine Ks_eq (by rw [x_stepFor]) ?_
      exact Ks_ite (ih _ _ _ h) (Ks_no)
    | 7 =>
      refine Ks_eq (by rw [x_stepFor]) ?_
      exact Ks_ite (ih _ _ _ h) (Ks_ite (ih _ _ _ h) (Ks_no))
    | 8 =>
      refine Ks_eq (by rw [x_stepFor]) ?_
      exact Ks_ob (ks_kind _ _ _ _ h) (fun _ h525 => Ks_ite (Ks_ite (Ks_ite (ih _ _ _ h525) (ih _ _ _ h525)) (Ks_no)) (ih _ _ _ h525))
    | 9 =>
      refine Ks_eq (by rw [x_stepFor]) ?_
      exact Ks_ob (ks_fail _ _ _ _ h) (fun _ h526 => Ks_so h526)
    | 10 =>
      refine Ks_eq (by rw [x_stepFor]) ?_
      exact Ks_ite (ih _ _ _ h) (Ks_no)
    | 11 =>
      refine Ks_eq (by rw [x_stepFor]) ?_
      exact Ks_ite (ih _ _ _ h) (Ks_ite (Ks_ite (ih _ _ _ h) (Ks_ite (ih _ _ _ h) (Ks_no))) (Ks_no))
    | 12 =>
      refine Ks_eq (by rw [x_stepFor]) ?_
      exact ih _ _ _ h
    | 13 =>
      refine Ks_eq (by rw [x_stepFor]) ?_
      exact Ks_ob (ks_assign _ _ _ _ h) (fun _ h527 => Ks_ite (ih _ _ _ h527) (Ks_no))
    | 14 =>
      refine Ks_eq (by rw [x_stepFor]) ?_
      exact Ks_ite (ih _ _ _ h) (ih _ _ _ h)
    | 15 =>
      refine Ks_eq (by rw [x_stepFor]) ?_
      exact ih _ _ _ h
    | 16 =>
      refine Ks_eq (by rw [x_stepFor]) ?_
      exact Ks_ite (Ks_so h) (Ks_no)
    | b + 17 =>
      exact Ks_eq (by rw [x_stepFor]) Ks_no
theorem ks_nextTurn : ∀ (k b : Nat) (L : Nat → Int32) (σ : MS), ks w σ → Ks w (x_nextTurn k b L σ) := by
  intro k
  induction k with
  | zero => intro b L σ _; exact Ks_no
  | succ k ih =>
    intro b L σ h
    match b with
    | 0 =>
      refine Ks_eq (by rw [x_nextTurn]) ?_
      exact ih _ _ _ h
    | 1 =>
      refine Ks_eq (by rw [x_nextTurn]) ?_
      exact Ks_ite (Ks_ob (ks_sweep _ _ _ _ h) (fun _ h528 => Ks_ite (Ks_ite (ih _ _ _ h528) (Ks_ob (ks_iterOf _ _ _ _ h528) (fun _ h529 => Ks_ob (ks_openFor _ _ _ _ h529) (fun _ h530 => Ks_ite (ih _ _ _ h530) (Ks_so h530))))) (Ks_no))) (ih _ _ _ h)
    | 2 =>
      refine Ks_eq (by rw [x_nextTurn]) ?_
      exact Ks_ite (Ks_so h) (ih _ _ _ h)
    | 3 =>
      refine Ks_eq (by rw [x_nextTurn]) ?_
      exact Ks_ob (ks_iterOf _ _ _ _ h) (fun _ h531 => Ks_ob (ks_stepFor _ _ _ _ h531) (fun _ h532 => Ks_ite (Ks_ite (Ks_ob (ks_dropIter _ _ _ _ h532) (fun _ h533 => ih _ _ _ h533)) (ih _ _ _ h532)) (ih _ _ _ h532)))
    | 4 =>
      refine Ks_eq (by rw [x_nextTurn]) ?_
      exact Ks_ite (ih _ _ _ h) (Ks_ite (Ks_ite (Ks_so h) (ih _ _ _ h)) (Ks_no))
    | 5 =>
      refine Ks_eq (by rw [x_nextTurn]) ?_
      exact ih _ _ _ h
    | 6 =>
      refine Ks_eq (by rw [x_nextTurn]) ?_
      exact Ks_so h
    | b + 7 =>
      exact Ks_eq (by rw [x_nextTurn]) Ks_no
theorem ks_holds (k b : Nat) (L : Nat → Int32) (σ : MS) (h : ks w σ) : Ks w (x_holds k b L σ) := ks_GV k 1300 8 b L σ h
theorem ks_seek : ∀ (k b : Nat) (L : Nat → Int32) (σ : MS), ks w σ → Ks w (x_seek k b L σ) := by
  intro k
  induction k with
  | zero => intro b L σ _; exact Ks_no
  | succ k ih =>
    intro b L σ h
    match b with
    | 0 =>
      refine Ks_eq (by rw [x_seek]) ?_
      exact Ks_ite (Ks_ite (Ks_ob (ks_nextTurn _ _ _ _ h) (fun _ h534 => ih _ _ _ h534)) (Ks_no)) (Ks_no)
    | 1 =>
      refine Ks_eq (by rw [x_seek]) ?_
      exact Ks_ite (ih _ _ _ h) (Ks_ite (Ks_ite (Ks_ite (ih _ _ _ h) (Ks_ite (Ks_ite (ih _ _ _ h) (ih _ _ _ h)) (Ks_no))) (Ks_no)) (ih _ _ _ h))
    | 2 =>
      refine Ks_eq (by rw [x_seek]) ?_
      exact Ks_ite (Ks_ite (ih _ _ _ h) (Ks_ite (Ks_ob (ks_holds _ _ _ _ h) (fun _ h535 => Ks_ite (ih _ _ _ h535) (ih _ _ _ h535))) (Ks_no))) (Ks_no)
    | 3 =>
      refine Ks_eq (by rw [x_seek]) ?_
      exact ih _ _ _ h
    | 4 =>
      refine Ks_eq (by rw [x_seek]) ?_
      exact ih _ _ _ h
    | 5 =>
      refine Ks_eq (by rw [x_seek]) ?_
      exact Ks_ite (ih _ _ _ h) (Ks_ite (Ks_ite (ih _ _ _ h) (ih _ _ _ h)) (Ks_no))
    | 6 =>
      refine Ks_eq (by rw [x_seek]) ?_
      exact Ks_ite (Ks_ob (ks_nextTurn _ _ _ _ h) (fun _ h536 => Ks_ite (ih _ _ _ h536) (ih _ _ _ h536))) (ih _ _ _ h)
    | 7 =>
      refine Ks_eq (by rw [x_seek]) ?_
      exact ih _ _ _ h
    | 8 =>
      refine Ks_eq (by rw [x_seek]) ?_
      exact ih _ _ _ h
    | 9 =>
      refine Ks_eq (by rw [x_seek]) ?_
      exact Ks_ite (ih _ _ _ h) (Ks_so h)
    | 10 =>
      refine Ks_eq (by rw [x_seek]) ?_
      exact Ks_ite (ih _ _ _ h) (Ks_ite (Ks_ite (ih _ _ _ h) (Ks_no)) (Ks_no))
    | 11 =>
      refine Ks_eq (by rw [x_seek]) ?_
      exact Ks_so h
    | 12 =>
      refine Ks_eq (by rw [x_seek]) ?_
      exact Ks_ob (ks_closeFor _ _ _ _ h) (fun _ h537 => Ks_so h537)
    | b + 13 =>
      exact Ks_eq (by rw [x_seek]) Ks_no
theorem ks_done : ∀ (k b : Nat) (L : Nat → Int32) (σ : MS), ks w σ → Ks w (x_done k b L σ) := by
  intro k
  induction k with
  | zero => intro b L σ _; exact Ks_no
  | succ k ih =>
    intro b L σ h
    match b with
    | 0 =>
      refine Ks_eq (by rw [x_done]) ?_
      exact Ks_ite (ih _ _ _ h) (Ks_so h)
    | 1 =>
      refine Ks_eq (by rw [x_done]) ?_
      exact Ks_ite (Ks_ite (Ks_ite (ih _ _ _ h) (Ks_ob (ks_giveBack _ _ _ _ h) (fun _ h538 => Ks_so h538))) (Ks_no)) (ih _ _ _ h)
    | 2 =>
      refine Ks_eq (by rw [x_done]) ?_
      exact ih _ _ _ h
    | 3 =>
      refine Ks_eq (by rw [x_done]) ?_
      exact Ks_so h
    | 4 =>
      refine Ks_eq (by rw [x_done]) ?_
      exact Ks_ite (Ks_ite (Ks_ite (ih _ _ _ h) (Ks_no)) (ih _ _ _ h)) (Ks_no)
    | 5 =>
      refine Ks_eq (by rw [x_done]) ?_
      exact Ks_so h
    | 6 =>
      refine Ks_eq (by rw [x_done]) ?_
      exact Ks_ite (Ks_ite (Ks_ob (ks_seek _ _ _ _ h) (fun _ h539 => ih _ _ _ h539)) (ih _ _ _ h)) (Ks_no)
    | 7 =>
      refine Ks_eq (by rw [x_done]) ?_
      exact ih _ _ _ h
    | 8 =>
      refine Ks_eq (by rw [x_done]) ?_
      exact Ks_so h
    | b + 9 =>
      exact Ks_eq (by rw [x_done]) Ks_no
theorem ks_finished : ∀ (k b : Nat) (L : Nat → Int32) (σ : MS), ks w σ → Ks w (x_finished k b L σ) := by
  intro k
  induction k with
  | zero => intro b L σ _; exact Ks_no
  | succ k ih =>
    intro b L σ h
    match b with
    | 0 =>
      refine Ks_eq (by rw [x_finished]) ?_
      exact ih _ _ _ h
    | 1 =>
      refine Ks_eq (by rw [x_finished]) ?_
      exact Ks_ite (ih _ _ _ h) (Ks_ob (ks_done _ _ _ _ h) (fun _ h540 => Ks_ite (ih _ _ _ h540) (ih _ _ _ h540)))
    | 2 =>
      refine Ks_eq (by rw [x_finished]) ?_
      exact ih _ _ _ h
    | 3 =>
      refine Ks_eq (by rw [x_finished]) ?_
      exact Ks_ite (ih _ _ _ h) (Ks_ite (Ks_ite (ih _ _ _ h) (Ks_ite (Ks_ite (ih _ _ _ h) (Ks_no)) (Ks_no))) (Ks_no))
    | 4 =>
      refine Ks_eq (by rw [x_finished]) ?_
      exact ih _ _ _ h
    | 5 =>
      refine Ks_eq (by rw [x_finished]) ?_
      exact Ks_ite (ih _ _ _ h) (Ks_ite (Ks_ite (ih _ _ _ h) (Ks_no)) (Ks_no))
    | 6 =>
      refine Ks_eq (by rw [x_finished]) ?_
      exact ih _ _ _ h
    | 7 =>
      refine Ks_eq (by rw [x_finished]) ?_
      exact Ks_so h
    | b + 8 =>
      exact Ks_eq (by rw [x_finished]) Ks_no
theorem ks_enter : ∀ (k b : Nat) (L : Nat → Int32) (σ : MS), ks w σ → Ks w (x_enter k b L σ) := by
  intro k
  induction k with
  | zero => intro b L σ _; exact Ks_no
  | succ k ih =>
    intro b L σ h
    match b with
    | 0 =>
      refine Ks_eq (by rw [x_enter]) ?_
      exact Ks_ite (ih _ _ _ h) (Ks_ite (ih _ _ _ h) (Ks_no))
    | 1 =>
      refine Ks_eq (by rw [x_enter]) ?_
      exact Ks_ob (ks_finished _ _ _ _ h) (fun _ h541 => ih _ _ _ h541)
    | 2 =>
      refine Ks_eq (by rw [x_enter]) ?_
      exact Ks_so h
    | b + 3 =>
      exact Ks_eq (by rw [x_enter]) Ks_no
theorem ks_reset : ∀ (k b : Nat) (L : Nat → Int32) (σ : MS), ks w σ → Ks w (x_reset k b L σ) := by
  intro k
  induction k with
  | zero => intro b L σ _; exact Ks_no
  | succ k ih =>
    intro b L σ h
    match b with
    | 0 =>
      refine Ks_eq (by rw [x_reset]) ?_
      exact ih _ _ _ h
    | 1 =>
      refine Ks_eq (by rw [x_reset]) ?_
      exact ih _ _ _ h
    | 2 =>
      refine Ks_eq (by rw [x_reset]) ?_
      exact ih _ _ _ h
    | 3 =>
      refine Ks_eq (by rw [x_reset]) ?_
      exact ih _ _ _ h
    | 4 =>
      refine Ks_eq (by rw [x_reset]) ?_
      exact ih _ _ _ h
    | 5 =>
      refine Ks_eq (by rw [x_reset]) ?_
      exact ih _ _ _ h
    | 6 =>
      refine Ks_eq (by rw [x_reset]) ?_
      exact ih _ _ _ h
    | 7 =>
      refine Ks_eq (by rw [x_reset]) ?_
      exact ih _ _ _ h
    | 8 =>
      refine Ks_eq (by rw [x_reset]) ?_
      exact ih _ _ _ h
    | 9 =>
      refine Ks_eq (by rw [x_reset]) ?_
      exact ih _ _ _ h
    | 10 =>
      refine Ks_eq (by rw [x_reset]) ?_
      exact ih _ _ _ h
    | 11 =>
      refine Ks_eq (by rw [x_reset]) ?_
      exact ih _ _ _ h
    | 12 =>
      refine Ks_eq (by rw [x_reset]) ?_
      exact Ks_ite (ih _ _ _ h) (Ks_no)
    | 13 =>
      refine Ks_eq (by rw [x_reset]) ?_
      exact Ks_ite (ih _ _ _ h) (Ks_no)
    | 14 =>
      refine Ks_eq (by rw [x_reset]) ?_
      exact Ks_ite (ih _ _ _ h) (Ks_no)
    | 15 =>
      refine Ks_eq (by rw [x_reset]) ?_
      exact ih _ _ _ h
    | 16 =>
      refine Ks_eq (by rw [x_reset]) ?_
      exact Ks_ite (ih _ _ _ h) (Ks_ite (ih _ _ _ h) (Ks_no))
    | 17 =>
      refine Ks_eq (by rw [x_reset]) ?_
      exact Ks_ite (Ks_ite (ih _ _ _ h) (Ks_ite (Ks_ite (ih _ _ _ h) (ih _ _ _ h)) (Ks_no))) (Ks_no)
    | 18 =>
      refine Ks_eq (by rw [x_reset]) ?_
      exact ih _ _ _ h
    | 19 =>
      refine Ks_eq (by rw [x_reset]) ?_
      exact ih _ _ _ h
    | 20 =>
      refine Ks_eq (by rw [x_reset]) ?_
      exact ih _ _ _ h
    | 21 =>
      refine Ks_eq (by rw [x_reset]) ?_
      exact Ks_ob (ks_enter _ _ _ _ h) (fun _ h542 => Ks_so h542)
    | b + 22 =>
      exact Ks_eq (by rw [x_reset]) Ks_no
theorem ks_start : ∀ (k b : Nat) (L : Nat → Int32) (J : Nat → Int64) (σ : MS), ks w σ → Ks w (x_start k b L J σ) := by
  intro k
  induction k with
  | zero => intro b L J σ _; exact Ks_no
  | succ k ih =>
    intro b L J σ h
    match b with
    | 0 =>
      refine Ks_eq (by rw [x_start]) ?_
      exact Ks_ite (ih _ _ _ _ h) (ih _ _ _ _ h)
    | 1 =>
      refine Ks_eq (by rw [x_start]) ?_
      exact ih _ _ _ _ h
    | 2 =>
      refine Ks_eq (by rw [x_start]) ?_
      exact Ks_ob (ks_good _ _ _ _ h) (fun _ h543 => Ks_ite (Ks_so h543) (ih _ _ _ _ h543))
    | 3 =>
      refine Ks_eq (by rw [x_start]) ?_
      exact ih _ _ _ _ h
    | 4 =>
      refine Ks_eq (by rw [x_start]) ?_
      exact ih _ _ _ _ h
    | 5 =>
      refine Ks_eq (by rw [x_start]) ?_
      exact Ks_ob (ks_reset _ _ _ _ h) (fun _ h544 => Ks_so h544)
    | b + 6 =>
      exact Ks_eq (by rw [x_start]) Ks_no
theorem ks_goOnBehind : ∀ (k b : Nat) (L : Nat → Int32) (σ : MS), ks w σ → Ks w (x_goOnBehind k b L σ) := by
  intro k
  induction k with
  | zero => intro b L σ _; exact Ks_no
  | succ k ih =>
    intro b L σ h
    match b with
    | 0 =>
      refine Ks_eq (by rw [x_goOnBehind]) ?_
      exact Ks_ite (Ks_so h) (ih _ _ _ h)
    | 1 =>
      refine Ks_eq (by rw [x_goOnBehind]) ?_
      exact Ks_ite (Ks_ite (ih _ _ _ h) (Ks_ite (Ks_ite (ih _ _ _ h) (Ks_no)) (Ks_no))) (Ks_no)
    | 2 =>
      refine Ks_eq (by rw [x_goOnBehind]) ?_
      exact Ks_ite (Ks_ite (Ks_ob (ks_finished _ _ _ _ h) (fun _ h545 => ih _ _ _ h545)) (Ks_no)) (Ks_no)
    | 3 =>
      refine Ks_eq (by rw [x_goOnBehind]) ?_
      exact Ks_so h
    | b + 4 =>
      exact Ks_eq (by rw [x_goOnBehind]) Ks_no
theorem ks_pass : ∀ (k b : Nat) (L : Nat → Int32) (σ : MS), ks w σ → Ks w (x_pass k b L σ) := by
  intro k
  induction k with
  | zero => intro b L σ _; exact Ks_no
  | succ k ih =>
    intro b L σ h
    match b with
    | 0 =>
      refine Ks_eq (by rw [x_pass]) ?_
      exact Ks_ite (Ks_ob (ks_goOnBehind _ _ _ _ h) (fun _ h546 => ih _ _ _ h546)) (ih _ _ _ h)
    | 1 =>
      refine Ks_eq (by rw [x_pass]) ?_
      exact Ks_so h
    | b + 2 =>
      exact Ks_eq (by rw [x_pass]) Ks_no
theorem ks_assignTo : ∀ (k b : Nat) (L : Nat → Int32) (σ : MS), ks w σ → Ks w (x_assignTo k b L σ) := by
  intro k
  induction k with
  | zero => intro b L σ _; exact Ks_no
  | succ k ih =>
    intro b L σ h
    match b with
    | 0 =>
      refine Ks_eq (by rw [x_assignTo]) ?_
      exact Ks_ite (Ks_ob (ks_workParts _ _ _ _ h) (fun _ h547 => Ks_ite (Ks_ite (Ks_ob (ks_eval _ _ _ _ h547) (fun _ h548 => ih _ _ _ h548)) (Ks_no)) (ih _ _ _ h547))) (Ks_no)
    | 1 =>
      refine Ks_eq (by rw [x_assignTo]) ?_
      exact Ks_ite (ih _ _ _ h) (Ks_so h)
    | 2 =>
      refine Ks_eq (by rw [x_assignTo]) ?_
      exact Ks_ite (Ks_ite (Ks_ob (ks_readParts _ _ _ _ h) (fun _ h549 => Ks_ite (Ks_ob (ks_sweep _ _ _ _ h549) (fun _ h550 => Ks_ite (Ks_ite (Ks_ite (Ks_ob (ks_operate _ _ _ _ h550) (fun _ h551 => Ks_ob (ks_answer _ _ _ _ h551) (fun _ h552 => Ks_ite (ih _ _ _ h552) (Ks_no)))) (Ks_no)) (Ks_no)) (Ks_no))) (ih _ _ _ h549))) (ih _ _ _ h)) (Ks_no)
    | 3 =>
      refine Ks_eq (by rw [x_assignTo]) ?_
      exact ih _ _ _ h
    | 4 =>
      refine Ks_eq (by rw [x_assignTo]) ?_
      exact Ks_ob (ks_write _ _ _ _ h) (fun _ h553 => Ks_ob (ks_pass _ _ _ _ h553) (fun _ h554 => Ks_so h554))
    | b + 5 =>
      exact Ks_eq (by rw [x_assignTo]) Ks_no
theorem ks_partsTo : ∀ (k b : Nat) (L : Nat → Int32) (σ : MS), ks w σ → Ks w (x_partsTo k b L σ) := by
  intro k
  induction k with
  | zero => intro b L σ _; exact Ks_no
  | succ k ih =>
    intro b L σ h
    match b with
    | 0 =>
      refine Ks_eq (by rw [x_partsTo]) ?_
      exact Ks_ite (ih _ _ _ h) (Ks_no)
    | 1 =>
      refine Ks_eq (by rw [x_partsTo]) ?_
      exact Ks_ite (ih _ _ _ h) (Ks_ite (Ks_ite (Ks_ite (ih _ _ _ h) (Ks_ob (ks_workParts _ _ _ _ h) (fun _ h555 => ih _ _ _ h555))) (Ks_no)) (ih _ _ _ h))
    | 2 =>
      refine Ks_eq (by rw [x_partsTo]) ?_
      exact Ks_ite (ih _ _ _ h) (Ks_no)
    | 3 =>
      refine Ks_eq (by rw [x_partsTo]) ?_
      exact Ks_ite (Ks_ite (Ks_ob (ks_eval _ _ _ _ h) (fun _ h556 => ih _ _ _ h556)) (Ks_no)) (ih _ _ _ h)
    | 4 =>
      refine Ks_eq (by rw [x_partsTo]) ?_
      exact Ks_ite (ih _ _ _ h) (Ks_so h)
    | 5 =>
      refine Ks_eq (by rw [x_partsTo]) ?_
      exact Ks_ite (Ks_ob (ks_kind _ _ _ _ h) (fun _ h557 => Ks_ite (ih _ _ _ h557) (Ks_ob (ks_fail _ _ _ _ h557) (fun _ h558 => Ks_so h558)))) (Ks_no)
    | 6 =>
      refine Ks_eq (by rw [x_partsTo]) ?_
      exact Ks_ite (ih _ _ _ h) (Ks_no)
    | 7 =>
      refine Ks_eq (by rw [x_partsTo]) ?_
      exact Ks_ite (ih _ _ _ h) (Ks_ite (Ks_ite (Ks_ite (ih _ _ _ h) (Ks_ite (Ks_ite (Ks_ite (ih _ _ _ h) (Ks_ite (ih _ _ _ h) (Ks_no))) (Ks_no)) (Ks_no))) (Ks_no)) (ih _ _ _ h))
    | 8 =>
      refine Ks_eq (by rw [x_partsTo]) ?_
      exact ih _ _ _ h
    | 9 =>
      refine Ks_eq (by rw [x_partsTo]) ?_
      exact Ks_ob (ks_push _ _ _ _ h) (fun _ h559 => Ks_ob (ks_write _ _ _ _ h559) (fun _ h560 => ih _ _ _ h560))
    | 10 =>
      refine Ks_eq (by rw [x_partsTo]) ?_
      exact Ks_ob (ks_keysIn _ _ _ _ h) (fun _ h561 => ih _ _ _ h561)
    | 11 =>
      refine Ks_eq (by rw [x_partsTo]) ?_
      exact Ks_ite (ih _ _ _ h) (Ks_no)
    | 12 =>
      refine Ks_eq (by rw [x_partsTo]) ?_
      exact Ks_ob (ks_pass _ _ _ _ h) (fun _ h562 => Ks_so h562)
    | b + 13 =>
      exact Ks_eq (by rw [x_partsTo]) Ks_no
theorem ks_without : ∀ (k b : Nat) (L : Nat → Int32) (σ : MS), ks w σ → Ks w (x_without k b L σ) := by
  intro k
  induction k with
  | zero => intro b L σ _; exact Ks_no
  | succ k ih =>
    intro b L σ h
    match b with
    | 0 =>
      refine Ks_eq (by rw [x_without]) ?_
      exact Ks_ite (Ks_ite (Ks_ite (ih _ _ _ h) (ih _ _ _ h)) (Ks_no)) (Ks_no)
    | 1 =>
      refine Ks_eq (by rw [x_without]) ?_
      exact Ks_ite (ih _ _ _ h) (Ks_ite (Ks_ite (ih _ _ _ h) (Ks_no)) (Ks_no))
    | 2 =>
      refine Ks_eq (by rw [x_without]) ?_
      exact Ks_ite (ih _ _ _ h) (ih _ _ _ h)
    | 3 =>
      refine Ks_eq (by rw [x_without]) ?_
      exact ih _ _ _ h
    | 4 =>
      refine Ks_eq (by rw [x_without]) ?_
      exact ih _ _ _ h
    | 5 =>
      refine Ks_eq (by rw [x_without]) ?_
      exact Ks_ob (ks_stringOf__51 _ _ _ _ h) (fun _ h563 => Ks_so h563)
    | 6 =>
      refine Ks_eq (by rw [x_without]) ?_
      exact ih _ _ _ h
    | 7 =>
      refine Ks_eq (by rw [x_without]) ?_
      exact Ks_ite (ih _ _ _ h) (Ks_ite (ih _ _ _ h) (Ks_ite (Ks_ob (ks_push _ _ _ _ h) (fun _ h564 => ih _ _ _ h564)) (Ks_no)))
    | 8 =>
      refine Ks_eq (by rw [x_without]) ?_
      exact ih _ _ _ h
    | 9 =>
      refine Ks_eq (by rw [x_without]) ?_
      exact Ks_ite (Ks_ite (Ks_ob (ks_setOf _ _ _ _ h) (fun _ h565 => ih _ _ _ h565)) (ih _ _ _ h)) (Ks_no)
    | 10 =>
      refine Ks_eq (by rw [x_without]) ?_
      exact Ks_ob (ks_tupleOf _ _ _ _ h) (fun _ h566 => ih _ _ _ h566)
    | 11 =>
      refine Ks_eq (by rw [x_without]) ?_
      exact Ks_so h
    | b + 12 =>
      exact Ks_eq (by rw [x_without]) Ks_no
theorem ks_takeFrom : ∀ (k b : Nat) (L : Nat → Int32) (σ : MS), ks w σ → Ks w (x_takeFrom k b L σ) := by
  intro k
  induction k with
  | zero => intro b L σ _; exact Ks_no
  | succ k ih =>
    intro b L σ h
    match b with
    | 0 =>
      refine Ks_eq (by rw [x_takeFrom]) ?_
      exact Ks_ite (Ks_ite (Ks_ob (ks_workParts _ _ _ _ h) (fun _ h567 => Ks_ite (Ks_ob (ks_workParts _ _ _ _ h567) (fun _ h568 => ih _ _ _ h568)) (ih _ _ _ h567))) (Ks_no)) (Ks_no)
    | 1 =>
      refine Ks_eq (by rw [x_takeFrom]) ?_
      exact Ks_ite (Ks_ob (ks_readParts _ _ _ _ h) (fun _ h569 => ih _ _ _ h569)) (ih _ _ _ h)
    | 2 =>
      refine Ks_eq (by rw [x_takeFrom]) ?_
      exact Ks_ite (ih _ _ _ h) (Ks_so h)
    | 3 =>
      refine Ks_eq (by rw [x_takeFrom]) ?_
      exact Ks_ob (ks_sweep _ _ _ _ h) (fun _ h570 => Ks_ite (Ks_ob (ks_kind _ _ _ _ h570) (fun _ h571 => Ks_ite (Ks_ite (Ks_ite (ih _ _ _ h571) (ih _ _ _ h571)) (ih _ _ _ h571)) (Ks_no))) (Ks_no))
    | 4 =>
      refine Ks_eq (by rw [x_takeFrom]) ?_
      exact Ks_ite (ih _ _ _ h) (Ks_ite (ih _ _ _ h) (ih _ _ _ h))
    | 5 =>
      refine Ks_eq (by rw [x_takeFrom]) ?_
      exact Ks_ob (ks_fail _ _ _ _ h) (fun _ h572 => Ks_so h572)
    | 6 =>
      refine Ks_eq (by rw [x_takeFrom]) ?_
      exact Ks_ite (Ks_ob (ks_push _ _ _ _ h) (fun _ h573 => Ks_ite (ih _ _ _ h573) (Ks_ite (Ks_ite (ih _ _ _ h573) (ih _ _ _ h573)) (Ks_no)))) (Ks_no)
    | 7 =>
      refine Ks_eq (by rw [x_takeFrom]) ?_
      exact ih _ _ _ h
    | 8 =>
      refine Ks_eq (by rw [x_takeFrom]) ?_
      exact Ks_ob (ks_memberAt _ _ _ _ h) (fun _ h574 => Ks_ite (ih _ _ _ h574) (Ks_no))
    | 9 =>
      refine Ks_eq (by rw [x_takeFrom]) ?_
      exact Ks_ob (ks_without _ _ _ _ h) (fun _ h575 => Ks_ob (ks_answer _ _ _ _ h575) (fun _ h576 => Ks_ob (ks_push _ _ _ _ h576) (fun _ h577 => Ks_ob (ks_write _ _ _ _ h577) (fun _ h578 => ih _ _ _ h578))))
    | 10 =>
      refine Ks_eq (by rw [x_takeFrom]) ?_
      exact Ks_ob (ks_write _ _ _ _ h) (fun _ h579 => Ks_ob (ks_pass _ _ _ _ h579) (fun _ h580 => Ks_so h580))
    | b + 11 =>
      exact Ks_eq (by rw [x_takeFrom]) Ks_no
theorem ks_makePoint : ∀ (k b : Nat) (L : Nat → Int32) (σ : MS), ks w σ → Ks w (x_makePoint k b L σ) := by
  intro k
  induction k with
  | zero => intro b L σ _; exact Ks_no
  | succ k ih =>
    intro b L σ h
    match b with
    | 0 =>
      refine Ks_eq (by rw [x_makePoint]) ?_
      exact Ks_ite (ih _ _ _ h) (Ks_ite (ih _ _ _ h) (ih _ _ _ h))
    | 1 =>
      refine Ks_eq (by rw [x_makePoint]) ?_
      exact Ks_ob (ks_fail _ _ _ _ h) (fun _ h581 => Ks_so h581)
    | 2 =>
      refine Ks_eq (by rw [x_makePoint]) ?_
      exact Ks_ite (ih _ _ _ h) (Ks_no)
    | 3 =>
      refine Ks_eq (by rw [x_makePoint]) ?_
      exact ih _ _ _ h
    | 4 =>
      refine Ks_eq (by rw [x_makePoint]) ?_
      exact Ks_ite (ih _ _ _ h) (Ks_ite (Ks_ite (ih _ _ _ h) (Ks_no)) (Ks_no))
    | 5 =>
      refine Ks_eq (by rw [x_makePoint]) ?_
      exact ih _ _ _ h
    | 6 =>
      refine Ks_eq (by rw [x_makePoint]) ?_
      exact Ks_ite (ih _ _ _ h) (Ks_no)
    | 7 =>
      refine Ks_eq (by rw [x_makePoint]) ?_
      exact ih _ _ _ h
    | 8 =>
      refine Ks_eq (by rw [x_makePoint]) ?_
      exact Ks_so h
    | b + 9 =>
      exact Ks_eq (by rw [x_makePoint]) Ks_no
theorem ks_beginCall : ∀ (k b : Nat) (L : Nat → Int32) (σ : MS), ks w σ → Ks w (x_beginCall k b L σ) := by
  intro k
  induction k with
  | zero => intro b L σ _; exact Ks_no
  | succ k ih =>
    intro b L σ h
    match b with
    | 0 =>
      refine Ks_eq (by rw [x_beginCall]) ?_
      exact Ks_ite (Ks_ite (ih _ _ _ h) (Ks_no)) (Ks_no)
    | 1 =>
      refine Ks_eq (by rw [x_beginCall]) ?_
      exact Ks_ite (ih _ _ _ h) (Ks_ite (Ks_ite (ih _ _ _ h) (Ks_ob (ks_eval _ _ _ _ h) (fun _ h582 => ih _ _ _ h582))) (Ks_no))
    | 2 =>
      refine Ks_eq (by rw [x_beginCall]) ?_
      exact Ks_ob (ks_push _ _ _ _ h) (fun _ h583 => ih _ _ _ h583)
    | 3 =>
      refine Ks_eq (by rw [x_beginCall]) ?_
      exact Ks_ite (ih _ _ _ h) (Ks_no)
    | 4 =>
      refine Ks_eq (by rw [x_beginCall]) ?_
      exact Ks_ite (ih _ _ _ h) (Ks_so h)
    | 5 =>
      refine Ks_eq (by rw [x_beginCall]) ?_
      exact Ks_ite (Ks_ite (Ks_ob (ks_fail _ _ _ _ h) (fun _ h584 => Ks_so h584)) (ih _ _ _ h)) (Ks_no)
    | 6 =>
      refine Ks_eq (by rw [x_beginCall]) ?_
      exact ih _ _ _ h
    | 7 =>
      refine Ks_eq (by rw [x_beginCall]) ?_
      exact Ks_ite (Ks_ite (ih _ _ _ h) (Ks_ite (Ks_ite (ih _ _ _ h) (Ks_ite (Ks_ite (ih _ _ _ h) (Ks_ite (Ks_ob (ks_size _ _ _ _ h) (fun _ h585 => ih _ _ _ h585)) (Ks_no))) (Ks_no))) (Ks_no))) (Ks_no)
    | 8 =>
      refine Ks_eq (by rw [x_beginCall]) ?_
      exact ih _ _ _ h
    | 9 =>
      refine Ks_eq (by rw [x_beginCall]) ?_
      exact ih _ _ _ h
    | 10 =>
      refine Ks_eq (by rw [x_beginCall]) ?_
      exact ih _ _ _ h
    | 11 =>
      refine Ks_eq (by rw [x_beginCall]) ?_
      exact Ks_ite (ih _ _ _ h) (Ks_ob (ks_fail _ _ _ _ h) (fun _ h586 => Ks_so h586))
    | 12 =>
      refine Ks_eq (by rw [x_beginCall]) ?_
      exact ih _ _ _ h
    | 13 =>
      refine Ks_eq (by rw [x_beginCall]) ?_
      exact Ks_ite (Ks_ite (ih _ _ _ h) (Ks_no)) (Ks_no)
    | 14 =>
      refine Ks_eq (by rw [x_beginCall]) ?_
      exact Ks_ite (ih _ _ _ h) (Ks_no)
    | 15 =>
      refine Ks_eq (by rw [x_beginCall]) ?_
      exact Ks_ite (Ks_ite (ih _ _ _ h) (Ks_no)) (Ks_no)
    | 16 =>
      refine Ks_eq (by rw [x_beginCall]) ?_
      exact ih _ _ _ h
    | 17 =>
      refine Ks_eq (by rw [x_beginCall]) ?_
      exact Ks_ite (ih _ _ _ h) (Ks_ite (Ks_ite (ih _ _ _ h) (Ks_ite (ih _ _ _ h) (Ks_no))) (Ks_no))
    | 18 =>
      refine Ks_eq (by rw [x_beginCall]) ?_
      exact ih _ _ _ h
    | 19 =>
      refine Ks_eq (by rw [x_beginCall]) ?_
      exact Ks_ite (ih _ _ _ h) (Ks_no)
    | 20 =>
      refine Ks_eq (by rw [x_beginCall]) ?_
      exact ih _ _ _ h
    | 21 =>
      refine Ks_eq (by rw [x_beginCall]) ?_
      exact ih _ _ _ h
    | 22 =>
      refine Ks_eq (by rw [x_beginCall]) ?_
      exact Ks_ite (Ks_ite (ih _ _ _ h) (Ks_no)) (Ks_no)
    | 23 =>
      refine Ks_eq (by rw [x_beginCall]) ?_
      exact Ks_ite (Ks_ob (ks_enter _ _ _ _ h) (fun _ h587 => Ks_so h587)) (Ks_no)
    | b + 24 =>
      exact Ks_eq (by rw [x_beginCall]) Ks_no
theorem ks_decide : ∀ (k b : Nat) (L : Nat → Int32) (σ : MS), ks w σ → Ks w (x_decide k b L σ) := by
  intro k
  induction k with
  | zero => intro b L σ _; exact Ks_no
  | succ k ih =>
    intro b L σ h
    match b with
    | 0 =>
      refine Ks_eq (by rw [x_decide]) ?_
      exact ih _ _ _ h
    | 1 =>
      refine Ks_eq (by rw [x_decide]) ?_
      exact Ks_ite (ih _ _ _ h) (Ks_ite (Ks_ite (Ks_ite (ih _ _ _ h) (ih _ _ _ h)) (Ks_no)) (ih _ _ _ h))
    | 2 =>
      refine Ks_eq (by rw [x_decide]) ?_
      exact ih _ _ _ h
    | 3 =>
      refine Ks_eq (by rw [x_decide]) ?_
      exact Ks_ite (Ks_ite (Ks_ob (ks_makePoint _ _ _ _ h) (fun _ h588 => ih _ _ _ h588)) (ih _ _ _ h)) (Ks_no)
    | 4 =>
      refine Ks_eq (by rw [x_decide]) ?_
      exact Ks_ite (Ks_ite (Ks_ob (ks_holds _ _ _ _ h) (fun _ h589 => ih _ _ _ h589)) (Ks_no)) (ih _ _ _ h)
    | 5 =>
      refine Ks_eq (by rw [x_decide]) ?_
      exact Ks_ite (ih _ _ _ h) (Ks_so h)
    | 6 =>
      refine Ks_eq (by rw [x_decide]) ?_
      exact Ks_ite (ih _ _ _ h) (Ks_ite (Ks_ob (ks_enter _ _ _ _ h) (fun _ h590 => Ks_so h590)) (Ks_no))
    | 7 =>
      refine Ks_eq (by rw [x_decide]) ?_
      exact Ks_ite (ih _ _ _ h) (Ks_no)
    | 8 =>
      refine Ks_eq (by rw [x_decide]) ?_
      exact Ks_ob (ks_pass _ _ _ _ h) (fun _ h591 => Ks_so h591)
    | b + 9 =>
      exact Ks_eq (by rw [x_decide]) Ks_no
theorem ks_testAgain : ∀ (k b : Nat) (L : Nat → Int32) (σ : MS), ks w σ → Ks w (x_testAgain k b L σ) := by
  intro k
  induction k with
  | zero => intro b L σ _; exact Ks_no
  | succ k ih =>
    intro b L σ h
    match b with
    | 0 =>
      refine Ks_eq (by rw [x_testAgain]) ?_
      exact Ks_ite (Ks_ob (ks_holds _ _ _ _ h) (fun _ h592 => Ks_ite (ih _ _ _ h592) (Ks_so h592))) (Ks_no)
    | 1 =>
      refine Ks_eq (by rw [x_testAgain]) ?_
      exact Ks_ite (ih _ _ _ h) (Ks_ite (Ks_ob (ks_enter _ _ _ _ h) (fun _ h593 => ih _ _ _ h593)) (Ks_no))
    | 2 =>
      refine Ks_eq (by rw [x_testAgain]) ?_
      exact Ks_ob (ks_goOnBehind _ _ _ _ h) (fun _ h594 => ih _ _ _ h594)
    | 3 =>
      refine Ks_eq (by rw [x_testAgain]) ?_
      exact Ks_so h
    | b + 4 =>
      exact Ks_eq (by rw [x_testAgain]) Ks_no
theorem ks_beginFor : ∀ (k b : Nat) (L : Nat → Int32) (σ : MS), ks w σ → Ks w (x_beginFor k b L σ) := by
  intro k
  induction k with
  | zero => intro b L σ _; exact Ks_no
  | succ k ih =>
    intro b L σ h
    match b with
    | 0 =>
      refine Ks_eq (by rw [x_beginFor]) ?_
      exact Ks_ite (Ks_ite (ih _ _ _ h) (Ks_no)) (Ks_no)
    | 1 =>
      refine Ks_eq (by rw [x_beginFor]) ?_
      exact Ks_ite (Ks_ite (ih _ _ _ h) (Ks_no)) (Ks_no)
    | 2 =>
      refine Ks_eq (by rw [x_beginFor]) ?_
      exact Ks_ite (Ks_ite (ih _ _ _ h) (Ks_no)) (Ks_no)
    | 3 =>
      refine Ks_eq (by rw [x_beginFor]) ?_
      exact Ks_ob (ks_seek _ _ _ _ h) (fun _ h595 => Ks_ob (ks_goOnBehind _ _ _ _ h595) (fun _ h596 => Ks_so h596))
    | b + 4 =>
      exact Ks_eq (by rw [x_beginFor]) Ks_no
theorem ks_loopOf : ∀ (k b : Nat) (L : Nat → Int32) (σ : MS), ks w σ → Ks w (x_loopOf k b L σ) := by
  intro k
  induction k with
  | zero => intro b L σ _; exact Ks_no
  | succ k ih =>
    intro b L σ h
    match b with
    | 0 =>
      refine Ks_eq (by rw [x_loopOf]) ?_
      exact Ks_ite (Ks_ite (ih _ _ _ h) (Ks_no)) (Ks_no)
    | 1 =>
      refine Ks_eq (by rw [x_loopOf]) ?_
      exact Ks_ite (Ks_ite (ih _ _ _ h) (Ks_ite (Ks_ite (ih _ _ _ h) (Ks_ite (Ks_ite (ih _ _ _ h) (Ks_no)) (Ks_no))) (Ks_no))) (Ks_no)
    | 2 =>
      refine Ks_eq (by rw [x_loopOf]) ?_
      exact Ks_so h
    | b + 3 =>
      exact Ks_eq (by rw [x_loopOf]) Ks_no
theorem ks_leave : ∀ (k b : Nat) (L : Nat → Int32) (σ : MS), ks w σ → Ks w (x_leave k b L σ) := by
  intro k
  induction k with
  | zero => intro b L σ _; exact Ks_no
  | succ k ih =>
    intro b L σ h
    match b with
    | 0 =>
      refine Ks_eq (by rw [x_leave]) ?_
      exact Ks_ob (ks_loopOf _ _ _ _ h) (fun _ h597 => Ks_ite (Ks_ite (ih _ _ _ h597) (ih _ _ _ h597)) (Ks_no))
    | 1 =>
      refine Ks_eq (by rw [x_leave]) ?_
      exact ih _ _ _ h
    | 2 =>
      refine Ks_eq (by rw [x_leave]) ?_
      exact Ks_ite (Ks_ite (Ks_ite (ih _ _ _ h) (Ks_ob (ks_closeFor _ _ _ _ h) (fun _ h598 => ih _ _ _ h598))) (ih _ _ _ h)) (Ks_no)
    | 3 =>
      refine Ks_eq (by rw [x_leave]) ?_
      exact Ks_ite (ih _ _ _ h) (ih _ _ _ h)
    | 4 =>
      refine Ks_eq (by rw [x_leave]) ?_
      exact Ks_ob (ks_seek _ _ _ _ h) (fun _ h599 => ih _ _ _ h599)
    | 5 =>
      refine Ks_eq (by rw [x_leave]) ?_
      exact Ks_ob (ks_goOnBehind _ _ _ _ h) (fun _ h600 => ih _ _ _ h600)
    | 6 =>
      refine Ks_eq (by rw [x_leave]) ?_
      exact Ks_ite (ih _ _ _ h) (Ks_ob (ks_goOnBehind _ _ _ _ h) (fun _ h601 => ih _ _ _ h601))
    | 7 =>
      refine Ks_eq (by rw [x_leave]) ?_
      exact Ks_ite (ih _ _ _ h) (Ks_no)
    | 8 =>
      refine Ks_eq (by rw [x_leave]) ?_
      exact Ks_so h
    | b + 9 =>
      exact Ks_eq (by rw [x_leave]) Ks_no
theorem ks_returns : ∀ (k b : Nat) (L : Nat → Int32) (σ : MS), ks w σ → Ks w (x_returns k b L σ) := by
  intro k
  induction k with
  | zero => intro b L σ _; exact Ks_no
  | succ k ih =>
    intro b L σ h
    match b with
    | 0 =>
      refine Ks_eq (by rw [x_returns]) ?_
      exact Ks_ite (Ks_ite (ih _ _ _ h) (Ks_ite (Ks_ob (ks_eval _ _ _ _ h) (fun _ h602 => Ks_ite (ih _ _ _ h602) (ih _ _ _ h602))) (Ks_no))) (Ks_no)
    | 1 =>
      refine Ks_eq (by rw [x_returns]) ?_
      exact Ks_ob (ks_pop _ _ _ _ h) (fun _ h603 => ih _ _ _ h603)
    | 2 =>
      refine Ks_eq (by rw [x_returns]) ?_
      exact ih _ _ _ h
    | 3 =>
      refine Ks_eq (by rw [x_returns]) ?_
      exact Ks_ite (Ks_ob (ks_giveBack _ _ _ _ h) (fun _ h604 => Ks_ob (ks_goOnBehind _ _ _ _ h604) (fun _ h605 => ih _ _ _ h605))) (ih _ _ _ h)
    | 4 =>
      refine Ks_eq (by rw [x_returns]) ?_
      exact Ks_so h
    | b + 5 =>
      exact Ks_eq (by rw [x_returns]) Ks_no
theorem ks_putOut : ∀ (k b : Nat) (L : Nat → Int32) (σ : MS), ks w σ → Ks w (x_putOut k b L σ) := by
  intro k
  induction k with
  | zero => intro b L σ _; exact Ks_no
  | succ k ih =>
    intro b L σ h
    match b with
    | 0 =>
      refine Ks_eq (by rw [x_putOut]) ?_
      exact Ks_ite (ih _ _ _ h) (Ks_ite (ih _ _ _ h) (Ks_no))
    | 1 =>
      refine Ks_eq (by rw [x_putOut]) ?_
      exact Ks_ite (ih _ _ _ h) (ih _ _ _ h)
    | 2 =>
      refine Ks_eq (by rw [x_putOut]) ?_
      exact ih _ _ _ h
    | 3 =>
      refine Ks_eq (by rw [x_putOut]) ?_
      exact Ks_so h
    | b + 4 =>
      exact Ks_eq (by rw [x_putOut]) Ks_no
theorem ks_prints : ∀ (k b : Nat) (L : Nat → Int32) (σ : MS), ks w σ → Ks w (x_prints k b L σ) := by
  intro k
  induction k with
  | zero => intro b L σ _; exact Ks_no
  | succ k ih =>
    intro b L σ h
    match b with
    | 0 =>
      refine Ks_eq (by rw [x_prints]) ?_
      exact Ks_ite (ih _ _ _ h) (Ks_no)
    | 1 =>
      refine Ks_eq (by rw [x_prints]) ?_
      exact Ks_ite (ih _ _ _ h) (Ks_ite (Ks_ob (ks_eval _ _ _ _ h) (fun _ h606 => Ks_ite (ih _ _ _ h606) (Ks_no))) (ih _ _ _ h))
    | 2 =>
      refine Ks_eq (by rw [x_prints]) ?_
      exact Ks_ite (ih _ _ _ h) (Ks_so h)
    | 3 =>
      refine Ks_eq (by rw [x_prints]) ?_
      exact ih _ _ _ h
    | 4 =>
      refine Ks_eq (by rw [x_prints]) ?_
      exact Ks_ite (ih _ _ _ h) (ih _ _ _ h)
    | 5 =>
      refine Ks_eq (by rw [x_prints]) ?_
      exact Ks_ite (Ks_ob (ks_print _ _ _ _ h) (fun _ h607 => ih _ _ _ h607)) (Ks_no)
    | 6 =>
      refine Ks_eq (by rw [x_prints]) ?_
      exact Ks_ite (ih _ _ _ h) (Ks_ite (Ks_ob (ks_putOut _ _ _ _ h) (fun _ h608 => ih _ _ _ h608)) (Ks_no))
    | 7 =>
      refine Ks_eq (by rw [x_prints]) ?_
      exact Ks_ite (ih _ _ _ h) (ih _ _ _ h)
    | 8 =>
      refine Ks_eq (by rw [x_prints]) ?_
      exact ih _ _ _ h
    | 9 =>
      refine Ks_eq (by rw [x_prints]) ?_
      exact Ks_ob (ks_putOut _ _ _ _ h) (fun _ h609 => ih _ _ _ h609)
    | 10 =>
      refine Ks_eq (by rw [x_prints]) ?_
      exact Ks_ob (ks_pass _ _ _ _ h) (fun _ h610 => Ks_so h610)
    | b + 11 =>
      exact Ks_eq (by rw [x_prints]) Ks_no
theorem ks_succeed : ∀ (k b : Nat) (L : Nat → Int32) (σ : MS), ks w σ → Ks w (x_succeed k b L σ) := by
  intro k
  induction k with
  | zero => intro b L σ _; exact Ks_no
  | succ k ih =>
    intro b L σ h
    match b with
    | 0 =>
      refine Ks_eq (by rw [x_succeed]) ?_
      exact Ks_ite (Ks_ob (ks_fail _ _ _ _ h) (fun _ h611 => Ks_so h611)) (ih _ _ _ h)
    | 1 =>
      refine Ks_eq (by rw [x_succeed]) ?_
      exact ih _ _ _ h
    | 2 =>
      refine Ks_eq (by rw [x_succeed]) ?_
      exact Ks_ite (ih _ _ _ h) (Ks_no)
    | 3 =>
      refine Ks_eq (by rw [x_succeed]) ?_
      exact Ks_ob (ks_pass _ _ _ _ h) (fun _ h612 => Ks_so h612)
    | b + 4 =>
      exact Ks_eq (by rw [x_succeed]) Ks_no
theorem ks_backTrack : ∀ (k b : Nat) (L : Nat → Int32) (σ : MS), ks w σ → Ks w (x_backTrack k b L σ) := by
  intro k
  induction k with
  | zero => intro b L σ _; exact Ks_no
  | succ k ih =>
    intro b L σ h
    match b with
    | 0 =>
      refine Ks_eq (by rw [x_backTrack]) ?_
      exact Ks_ite (Ks_ob (ks_fail _ _ _ _ h) (fun _ h613 => Ks_so h613)) (ih _ _ _ h)
    | 1 =>
      refine Ks_eq (by rw [x_backTrack]) ?_
      exact ih _ _ _ h
    | 2 =>
      refine Ks_eq (by rw [x_backTrack]) ?_
      exact Ks_ite (ih _ _ _ h) (Ks_no)
    | 3 =>
      refine Ks_eq (by rw [x_backTrack]) ?_
      exact ih _ _ _ h
    | 4 =>
      refine Ks_eq (by rw [x_backTrack]) ?_
      exact Ks_ite (ih _ _ _ h) (Ks_ite (Ks_ite (ih _ _ _ h) (Ks_no)) (Ks_no))
    | 5 =>
      refine Ks_eq (by rw [x_backTrack]) ?_
      exact ih _ _ _ h
    | 6 =>
      refine Ks_eq (by rw [x_backTrack]) ?_
      exact Ks_ite (ih _ _ _ h) (Ks_no)
    | 7 =>
      refine Ks_eq (by rw [x_backTrack]) ?_
      exact Ks_ite (Ks_ite (Ks_ite (Ks_ite (Ks_ob (ks_assign _ _ _ _ h) (fun _ h614 => Ks_ob (ks_pass _ _ _ _ h614) (fun _ h615 => ih _ _ _ h615))) (Ks_no)) (ih _ _ _ h)) (Ks_no)) (Ks_no)
    | 8 =>
      refine Ks_eq (by rw [x_backTrack]) ?_
      exact Ks_ite (Ks_ite (Ks_ob (ks_decide _ _ _ _ h) (fun _ h616 => ih _ _ _ h616)) (Ks_no)) (Ks_no)
    | 9 =>
      refine Ks_eq (by rw [x_backTrack]) ?_
      exact Ks_so h
    | b + 10 =>
      exact Ks_eq (by rw [x_backTrack]) Ks_no
theorem ks_forget : ∀ (k b : Nat) (L : Nat → Int32) (σ : MS), ks w σ → Ks w (x_forget k b L σ) := by
  intro k
  induction k with
  | zero => intro b L σ _; exact Ks_no
  | succ k ih =>
    intro b L σ h
    match b with
    | 0 =>
      refine Ks_eq (by rw [x_forget]) ?_
      exact ih _ _ _ h
    | 1 =>
      refine Ks_eq (by rw [x_forget]) ?_
      exact Ks_ite (ih _ _ _ h) (Ks_ite (ih _ _ _ h) (Ks_no))
    | 2 =>
      refine Ks_eq (by rw [x_forget]) ?_
      exact ih _ _ _ h
    | 3 =>
      refine Ks_eq (by rw [x_forget]) ?_
      exact ih _ _ _ h
    | 4 =>
      refine Ks_eq (by rw [x_forget]) ?_
      exact Ks_ite (ih _ _ _ h) (Ks_ite (Ks_ite (ih _ _ _ h) (Ks_ite (ih _ _ _ h) (Ks_no))) (Ks_no))
    | 5 =>
      refine Ks_eq (by rw [x_forget]) ?_
      exact ih _ _ _ h
    | 6 =>
      refine Ks_eq (by rw [x_forget]) ?_
      exact Ks_ite (ih _ _ _ h) (Ks_no)
    | 7 =>
      refine Ks_eq (by rw [x_forget]) ?_
      exact ih _ _ _ h
    | 8 =>
      refine Ks_eq (by rw [x_forget]) ?_
      exact ih _ _ _ h
    | 9 =>
      refine Ks_eq (by rw [x_forget]) ?_
      exact Ks_ite (Ks_ite (ih _ _ _ h) (Ks_ite (ih _ _ _ h) (Ks_no))) (Ks_no)
    | 10 =>
      refine Ks_eq (by rw [x_forget]) ?_
      exact Ks_ite (ih _ _ _ h) (Ks_ite (Ks_ite (ih _ _ _ h) (Ks_ite (ih _ _ _ h) (Ks_no))) (Ks_no))
    | 11 =>
      refine Ks_eq (by rw [x_forget]) ?_
      exact ih _ _ _ h
    | 12 =>
      refine Ks_eq (by rw [x_forget]) ?_
      exact Ks_ite (ih _ _ _ h) (Ks_no)
    | 13 =>
      refine Ks_eq (by rw [x_forget]) ?_
      exact ih _ _ _ h
    | 14 =>
      refine Ks_eq (by rw [x_forget]) ?_
      exact ih _ _ _ h
    | 15 =>
      refine Ks_eq (by rw [x_forget]) ?_
      exact Ks_so h
    | b + 16 =>
      exact Ks_eq (by rw [x_forget]) Ks_no
theorem ks_begin : ∀ (k b : Nat) (L : Nat → Int32) (σ : MS), ks w σ → Ks w (x_begin k b L σ) := by
  intro k
  induction k with
  | zero => intro b L σ _; exact Ks_no
  | succ k ih =>
    intro b L σ h
    match b with
    | 0 =>
      refine Ks_eq (by rw [x_begin]) ?_
      exact ih _ _ _ h
    | 1 =>
      refine Ks_eq (by rw [x_begin]) ?_
      exact Ks_ite (Ks_ite (ih _ _ _ h) (Ks_no)) (Ks_no)
    | 2 =>
      refine Ks_eq (by rw [x_begin]) ?_
      exact ih _ _ _ h
    | 3 =>
      refine Ks_eq (by rw [x_begin]) ?_
      exact ih _ _ _ h
    | 4 =>
      refine Ks_eq (by rw [x_begin]) ?_
      exact ih _ _ _ h
    | 5 =>
      refine Ks_eq (by rw [x_begin]) ?_
      exact ih _ _ _ h
    | 6 =>
      refine Ks_eq (by rw [x_begin]) ?_
      exact ih _ _ _ h
    | 7 =>
      refine Ks_eq (by rw [x_begin]) ?_
      exact ih _ _ _ h
    | 8 =>
      refine Ks_eq (by rw [x_begin]) ?_
      exact ih _ _ _ h
    | 9 =>
      refine Ks_eq (by rw [x_begin]) ?_
      exact Ks_ob (ks_sweep _ _ _ _ h) (fun _ h617 => Ks_ite (Ks_ite (ih _ _ _ h617) (Ks_ite (ih _ _ _ h617) (Ks_ite (ih _ _ _ h617) (Ks_ite (ih _ _ _ h617) (Ks_ite (ih _ _ _ h617) (Ks_ite (ih _ _ _ h617) (Ks_ite (ih _ _ _ h617) (Ks_ite (ih _ _ _ h617) (Ks_ite (ih _ _ _ h617) (Ks_ite (ih _ _ _ h617) (Ks_ite (ih _ _ _ h617) (Ks_ite (ih _ _ _ h617) (Ks_ite (ih _ _ _ h617) (Ks_ite (ih _ _ _ h617) (Ks_ite (ih _ _ _ h617) (Ks_ite (ih _ _ _ h617) (ih _ _ _ h617))))))))))))))))) (Ks_no))
    | 10 =>
      refine Ks_eq (by rw [x_begin]) ?_
      exact Ks_ob (ks_assignTo _ _ _ _ h) (fun _ h618 => ih _ _ _ h618)
    | 11 =>
      refine Ks_eq (by rw [x_begin]) ?_
      exact Ks_ob (ks_partsTo _ _ _ _ h) (fun _ h619 => ih _ _ _ h619)
    | 12 =>
      refine Ks_eq (by rw [x_begin]) ?_
      exact Ks_ob (ks_takeFrom _ _ _ _ h) (fun _ h620 => ih _ _ _ h620)
    | 13 =>
      refine Ks_eq (by rw [x_begin]) ?_
      exact Ks_ob (ks_makePoint _ _ _ _ h) (fun _ h621 => Ks_ite (Ks_ob (ks_assign _ _ _ _ h621) (fun _ h622 => Ks_ob (ks_pass _ _ _ _ h622) (fun _ h623 => ih _ _ _ h623))) (Ks_no))
    | 14 =>
      refine Ks_eq (by rw [x_begin]) ?_
      exact Ks_ob (ks_beginCall _ _ _ _ h) (fun _ h624 => ih _ _ _ h624)
    | 15 =>
      refine Ks_eq (by rw [x_begin]) ?_
      exact Ks_ite (Ks_ob (ks_decide _ _ _ _ h) (fun _ h625 => ih _ _ _ h625)) (Ks_no)
    | 16 =>
      refine Ks_eq (by rw [x_begin]) ?_
      exact Ks_ob (ks_testAgain _ _ _ _ h) (fun _ h626 => ih _ _ _ h626)
    | 17 =>
      refine Ks_eq (by rw [x_begin]) ?_
      exact Ks_ob (ks_beginFor _ _ _ _ h) (fun _ h627 => ih _ _ _ h627)
    | 18 =>
      refine Ks_eq (by rw [x_begin]) ?_
      exact Ks_ob (ks_leave _ _ _ _ h) (fun _ h628 => ih _ _ _ h628)
    | 19 =>
      refine Ks_eq (by rw [x_begin]) ?_
      exact Ks_ob (ks_returns _ _ _ _ h) (fun _ h629 => ih _ _ _ h629)
    | 20 =>
      refine Ks_eq (by rw [x_begin]) ?_
      exact Ks_ob (ks_prints _ _ _ _ h) (fun _ h630 => ih _ _ _ h630)
    | 21 =>
      refine Ks_eq (by rw [x_begin]) ?_
      exact Ks_ite (Ks_ob (ks_holds _ _ _ _ h) (fun _ h631 => Ks_ite (Ks_ob (ks_fail _ _ _ _ h631) (fun _ h632 => ih _ _ _ h632)) (ih _ _ _ h631))) (Ks_no)
    | 22 =>
      refine Ks_eq (by rw [x_begin]) ?_
      exact Ks_ob (ks_pass _ _ _ _ h) (fun _ h633 => ih _ _ _ h633)
    | 23 =>
      refine Ks_eq (by rw [x_begin]) ?_
      exact ih _ _ _ h
    | 24 =>
      refine Ks_eq (by rw [x_begin]) ?_
      exact Ks_ob (ks_succeed _ _ _ _ h) (fun _ h634 => ih _ _ _ h634)
    | 25 =>
      refine Ks_eq (by rw [x_begin]) ?_
      exact Ks_ob (ks_backTrack _ _ _ _ h) (fun _ h635 => ih _ _ _ h635)
    | 26 =>
      refine Ks_eq (by rw [x_begin]) ?_
      exact ih _ _ _ h
    | 27 =>
      refine Ks_eq (by rw [x_begin]) ?_
      exact Ks_ite (ih _ _ _ h) (ih _ _ _ h)
    | 28 =>
      refine Ks_eq (by rw [x_begin]) ?_
      exact ih _ _ _ h
    | 29 =>
      refine Ks_eq (by rw [x_begin]) ?_
      exact Ks_ob (ks_forget _ _ _ _ h) (fun _ h636 => ih _ _ _ h636)
    | 30 =>
      refine Ks_eq (by rw [x_begin]) ?_
      exact Ks_so h
    | b + 31 =>
      exact Ks_eq (by rw [x_begin]) Ks_no
theorem ks_step : ∀ (k b : Nat) (L : Nat → Int32) (σ : MS), ks w σ → Ks w (x_step k b L σ) := by
  intro k
  induction k with
  | zero => intro b L σ _; exact Ks_no
  | succ k ih =>
    intro b L σ h
    match b with
    | 0 =>
      refine Ks_eq (by rw [x_step]) ?_
      exact Ks_ite (ih _ _ _ h) (ih _ _ _ h)
    | 1 =>
      refine Ks_eq (by rw [x_step]) ?_
      exact Ks_ite (ih _ _ _ h) (Ks_ite (ih _ _ _ h) (ih _ _ _ h))
    | 2 =>
      refine Ks_eq (by rw [x_step]) ?_
      exact ih _ _ _ h
    | 3 =>
      refine Ks_eq (by rw [x_step]) ?_
      exact ih _ _ _ h
    | 4 =>
      refine Ks_eq (by rw [x_step]) ?_
      exact Ks_ob (ks_good _ _ _ _ h) (fun _ h637 => Ks_ite (Ks_so h637) (ih _ _ _ h637))
    | 5 =>
      refine Ks_eq (by rw [x_step]) ?_
      exact ih _ _ _ h
    | 6 =>
      refine Ks_eq (by rw [x_step]) ?_
      exact Ks_ite (ih _ _ _ h) (Ks_ite (Ks_ite (Ks_ob (ks_begin _ _ _ _ h) (fun _ h638 => ih _ _ _ h638)) (Ks_no)) (ih _ _ _ h))
    | 7 =>
      refine Ks_eq (by rw [x_step]) ?_
      exact Ks_ite (ih _ _ _ h) (ih _ _ _ h)
    | 8 =>
      refine Ks_eq (by rw [x_step]) ?_
      exact Ks_ite (ih _ _ _ h) (ih _ _ _ h)
    | 9 =>
      refine Ks_eq (by rw [x_step]) ?_
      exact ih _ _ _ h
    | 10 =>
      refine Ks_eq (by rw [x_step]) ?_
      exact Ks_so h
    | b + 11 =>
      exact Ks_eq (by rw [x_step]) Ks_no
theorem ks_back : ∀ (k b : Nat) (L : Nat → Int32) (σ : MS), ks w σ → Ks w (x_back k b L σ) := by
  intro k
  induction k with
  | zero => intro b L σ _; exact Ks_no
  | succ k ih =>
    intro b L σ h
    match b with
    | 0 =>
      refine Ks_eq (by rw [x_back]) ?_
      exact Ks_ite (ih _ _ _ h) (ih _ _ _ h)
    | 1 =>
      refine Ks_eq (by rw [x_back]) ?_
      exact Ks_ite (ih _ _ _ h) (Ks_ite (ih _ _ _ h) (ih _ _ _ h))
    | 2 =>
      refine Ks_eq (by rw [x_back]) ?_
      exact ih _ _ _ h
    | 3 =>
      refine Ks_eq (by rw [x_back]) ?_
      exact ih _ _ _ h
    | 4 =>
      refine Ks_eq (by rw [x_back]) ?_
      exact Ks_ob (ks_good _ _ _ _ h) (fun _ h639 => Ks_ite (Ks_so h639) (ih _ _ _ h639))
    | 5 =>
      refine Ks_eq (by rw [x_back]) ?_
      exact Ks_ob (ks_reset _ _ _ _ h) (fun _ h640 => ih _ _ _ h640)
    | 6 =>
      refine Ks_eq (by rw [x_back]) ?_
      exact Ks_ite (ih _ _ _ h) (Ks_ite (Ks_ob (ks_begin _ _ _ _ h) (fun _ h641 => ih _ _ _ h641)) (Ks_no))
    | 7 =>
      refine Ks_eq (by rw [x_back]) ?_
      exact Ks_so h
    | b + 8 =>
      exact Ks_eq (by rw [x_back]) Ks_no
theorem ks_state : ∀ (k b : Nat) (L : Nat → Int32) (σ : MS), ks w σ → Ks w (x_state k b L σ) := by
  intro k
  induction k with
  | zero => intro b L σ _; exact Ks_no
  | succ k ih =>
    intro b L σ h
    match b with
    | 0 =>
      refine Ks_eq (by rw [x_state]) ?_
      exact Ks_ite (ih _ _ _ h) (Ks_ite (ih _ _ _ h) (ih _ _ _ h))
    | 1 =>
      refine Ks_eq (by rw [x_state]) ?_
      exact ih _ _ _ h
    | 2 =>
      refine Ks_eq (by rw [x_state]) ?_
      exact Ks_ite (ih _ _ _ h) (ih _ _ _ h)
    | 3 =>
      refine Ks_eq (by rw [x_state]) ?_
      exact ih _ _ _ h
    | 4 =>
      refine Ks_eq (by rw [x_state]) ?_
      exact Ks_ob (ks_good _ _ _ _ h) (fun _ h642 => Ks_ite (Ks_so h642) (ih _ _ _ h642))
    | 5 =>
      refine Ks_eq (by rw [x_state]) ?_
      exact Ks_ite (ih _ _ _ h) (Ks_ite (ih _ _ _ h) (Ks_ite (ih _ _ _ h) (Ks_ite (ih _ _ _ h) (Ks_ite (ih _ _ _ h) (Ks_ite (ih _ _ _ h) (Ks_ite (ih _ _ _ h) (Ks_ite (ih _ _ _ h) (Ks_ite (ih _ _ _ h) (ih _ _ _ h)))))))))
    | 6 =>
      refine Ks_eq (by rw [x_state]) ?_
      exact Ks_so h
    | 7 =>
      refine Ks_eq (by rw [x_state]) ?_
      exact Ks_so h
    | 8 =>
      refine Ks_eq (by rw [x_state]) ?_
      exact Ks_so h
    | 9 =>
      refine Ks_eq (by rw [x_state]) ?_
      exact Ks_so h
    | 10 =>
      refine Ks_eq (by rw [x_state]) ?_
      exact Ks_ite (Ks_so h) (Ks_no)
    | 11 =>
      refine Ks_eq (by rw [x_state]) ?_
      exact Ks_so h
    | 12 =>
      refine Ks_eq (by rw [x_state]) ?_
      exact Ks_so h
    | 13 =>
      refine Ks_eq (by rw [x_state]) ?_
      exact Ks_so h
    | 14 =>
      refine Ks_eq (by rw [x_state]) ?_
      exact Ks_ite (ih _ _ _ h) (ih _ _ _ h)
    | 15 =>
      refine Ks_eq (by rw [x_state]) ?_
      exact Ks_ite (ih _ _ _ h) (ih _ _ _ h)
    | 16 =>
      refine Ks_eq (by rw [x_state]) ?_
      exact ih _ _ _ h
    | 17 =>
      refine Ks_eq (by rw [x_state]) ?_
      exact Ks_so h
    | 18 =>
      refine Ks_eq (by rw [x_state]) ?_
      exact Ks_so h
    | b + 19 =>
      exact Ks_eq (by rw [x_state]) Ks_no
theorem ks_out : ∀ (k b : Nat) (L : Nat → Int32) (σ : MS), ks w σ → Ks w (x_out k b L σ) := by
  intro k
  induction k with
  | zero => intro b L σ _; exact Ks_no
  | succ k ih =>
    intro b L σ h
    match b with
    | 0 =>
      refine Ks_eq (by rw [x_out]) ?_
      exact Ks_ite (ih _ _ _ h) (Ks_ite (ih _ _ _ h) (Ks_ite (ih _ _ _ h) (Ks_ite (ih _ _ _ h) (ih _ _ _ h))))
    | 1 =>
      refine Ks_eq (by rw [x_out]) ?_
      exact ih _ _ _ h
    | 2 =>
      refine Ks_eq (by rw [x_out]) ?_
      exact ih _ _ _ h
    | 3 =>
      refine Ks_eq (by rw [x_out]) ?_
      exact Ks_ob (ks_good _ _ _ _ h) (fun _ h643 => Ks_ite (ih _ _ _ h643) (Ks_ite (ih _ _ _ h643) (Ks_no)))
    | 4 =>
      refine Ks_eq (by rw [x_out]) ?_
      exact ih _ _ _ h
    | 5 =>
      refine Ks_eq (by rw [x_out]) ?_
      exact Ks_so h
    | b + 6 =>
      exact Ks_eq (by rw [x_out]) Ks_no
theorem ks_isNamed : ∀ (k b : Nat) (L : Nat → Int32) (σ : MS), ks w σ → Ks w (x_isNamed k b L σ) := by
  intro k
  induction k with
  | zero => intro b L σ _; exact Ks_no
  | succ k ih =>
    intro b L σ h
    match b with
    | 0 =>
      refine Ks_eq (by rw [x_isNamed]) ?_
      exact Ks_ite (ih _ _ _ h) (Ks_so h)
    | 1 =>
      refine Ks_eq (by rw [x_isNamed]) ?_
      exact ih _ _ _ h
    | 2 =>
      refine Ks_eq (by rw [x_isNamed]) ?_
      exact Ks_ite (ih _ _ _ h) (Ks_ite (Ks_ite (Ks_ite (ih _ _ _ h) (Ks_so h)) (Ks_no)) (Ks_no))
    | 3 =>
      refine Ks_eq (by rw [x_isNamed]) ?_
      exact ih _ _ _ h
    | 4 =>
      refine Ks_eq (by rw [x_isNamed]) ?_
      exact Ks_so h
    | b + 5 =>
      exact Ks_eq (by rw [x_isNamed]) Ks_no
theorem ks_show : ∀ (k b : Nat) (L : Nat → Int32) (σ : MS), ks w σ → Ks w (x_show k b L σ) := by
  intro k
  induction k with
  | zero => intro b L σ _; exact Ks_no
  | succ k ih =>
    intro b L σ h
    match b with
    | 0 =>
      refine Ks_eq (by rw [x_show]) ?_
      exact Ks_ite (Ks_ite (ih _ _ _ h) (Ks_no)) (Ks_no)
    | 1 =>
      refine Ks_eq (by rw [x_show]) ?_
      exact Ks_ite (ih _ _ _ h) (Ks_no)
    | 2 =>
      refine Ks_eq (by rw [x_show]) ?_
      exact ih _ _ _ h
    | 3 =>
      refine Ks_eq (by rw [x_show]) ?_
      exact ih _ _ _ h
    | 4 =>
      refine Ks_eq (by rw [x_show]) ?_
      exact Ks_ob (ks_print _ _ _ _ h) (fun _ h644 => ih _ _ _ h644)
    | 5 =>
      refine Ks_eq (by rw [x_show]) ?_
      exact ih _ _ _ h
    | 6 =>
      refine Ks_eq (by rw [x_show]) ?_
      exact Ks_ite (ih _ _ _ h) (Ks_ite (Ks_ite (ih _ _ _ h) (Ks_no)) (Ks_no))
    | 7 =>
      refine Ks_eq (by rw [x_show]) ?_
      exact ih _ _ _ h
    | 8 =>
      refine Ks_eq (by rw [x_show]) ?_
      exact Ks_so h
    | b + 9 =>
      exact Ks_eq (by rw [x_show]) Ks_no
theorem ks_value : ∀ (k b : Nat) (L : Nat → Int32) (σ : MS), ks w σ → Ks w (x_value k b L σ) := by
  intro k
  induction k with
  | zero => intro b L σ _; exact Ks_no
  | succ k ih =>
    intro b L σ h
    match b with
    | 0 =>
      refine Ks_eq (by rw [x_value]) ?_
      exact Ks_ite (ih _ _ _ h) (ih _ _ _ h)
    | 1 =>
      refine Ks_eq (by rw [x_value]) ?_
      exact ih _ _ _ h
    | 2 =>
      refine Ks_eq (by rw [x_value]) ?_
      exact Ks_ob (ks_good _ _ _ _ h) (fun _ h645 => Ks_ite (Ks_so h645) (ih _ _ _ h645))
    | 3 =>
      refine Ks_eq (by rw [x_value]) ?_
      exact ih _ _ _ h
    | 4 =>
      refine Ks_eq (by rw [x_value]) ?_
      exact ih _ _ _ h
    | 5 =>
      refine Ks_eq (by rw [x_value]) ?_
      exact ih _ _ _ h
    | 6 =>
      refine Ks_eq (by rw [x_value]) ?_
      exact Ks_ite (ih _ _ _ h) (Ks_ite (Ks_ite (Ks_ite (Ks_ite (Ks_ob (ks_isNamed _ _ _ _ h) (fun _ h646 => Ks_ite (ih _ _ _ h646) (ih _ _ _ h646))) (Ks_no)) (Ks_no)) (ih _ _ _ h)) (Ks_no))
    | 7 =>
      refine Ks_eq (by rw [x_value]) ?_
      exact Ks_ite (Ks_ite (Ks_ob (ks_show _ _ _ _ h) (fun _ h647 => Ks_so h647)) (Ks_no)) (Ks_no)
    | 8 =>
      refine Ks_eq (by rw [x_value]) ?_
      exact ih _ _ _ h
    | 9 =>
      refine Ks_eq (by rw [x_value]) ?_
      exact ih _ _ _ h
    | 10 =>
      refine Ks_eq (by rw [x_value]) ?_
      exact Ks_so h
    | b + 11 =>
      exact Ks_eq (by rw [x_value]) Ks_no
theorem ks_seen : ∀ (k b : Nat) (L : Nat → Int32) (σ : MS), ks w σ → Ks w (x_seen k b L σ) := by
  intro k
  induction k with
  | zero => intro b L σ _; exact Ks_no
  | succ k ih =>
    intro b L σ h
    match b with
    | 0 =>
      refine Ks_eq (by rw [x_seen]) ?_
      exact Ks_ite (ih _ _ _ h) (Ks_ite (ih _ _ _ h) (Ks_ite (ih _ _ _ h) (Ks_ite (ih _ _ _ h) (ih _ _ _ h))))
    | 1 =>
      refine Ks_eq (by rw [x_seen]) ?_
      exact ih _ _ _ h
    | 2 =>
      refine Ks_eq (by rw [x_seen]) ?_
      exact Ks_ite (Ks_ite (ih _ _ _ h) (ih _ _ _ h)) (Ks_no)
    | 3 =>
      refine Ks_eq (by rw [x_seen]) ?_
      exact ih _ _ _ h
    | 4 =>
      refine Ks_eq (by rw [x_seen]) ?_
      exact Ks_ob (ks_good _ _ _ _ h) (fun _ h648 => Ks_ite (Ks_so h648) (ih _ _ _ h648))
    | 5 =>
      refine Ks_eq (by rw [x_seen]) ?_
      exact Ks_ite (Ks_ite (ih _ _ _ h) (Ks_no)) (ih _ _ _ h)
    | 6 =>
      refine Ks_eq (by rw [x_seen]) ?_
      exact Ks_ite (Ks_ite (ih _ _ _ h) (Ks_no)) (ih _ _ _ h)
    | 7 =>
      refine Ks_eq (by rw [x_seen]) ?_
      exact Ks_ite (ih _ _ _ h) (Ks_no)
    | 8 =>
      refine Ks_eq (by rw [x_seen]) ?_
      exact Ks_ob (ks_show _ _ _ _ h) (fun _ h649 => Ks_so h649)
    | b + 9 =>
      exact Ks_eq (by rw [x_seen]) Ks_no
theorem ks_shown : ∀ (k b : Nat) (L : Nat → Int32) (σ : MS), ks w σ → Ks w (x_shown k b L σ) := by
  intro k
  induction k with
  | zero => intro b L σ _; exact Ks_no
  | succ k ih =>
    intro b L σ h
    match b with
    | 0 =>
      refine Ks_eq (by rw [x_shown]) ?_
      exact Ks_ite (ih _ _ _ h) (Ks_ite (ih _ _ _ h) (ih _ _ _ h))
    | 1 =>
      refine Ks_eq (by rw [x_shown]) ?_
      exact ih _ _ _ h
    | 2 =>
      refine Ks_eq (by rw [x_shown]) ?_
      exact ih _ _ _ h
    | 3 =>
      refine Ks_eq (by rw [x_shown]) ?_
      exact Ks_ob (ks_good _ _ _ _ h) (fun _ h650 => Ks_ite (ih _ _ _ h650) (Ks_ite (ih _ _ _ h650) (Ks_no)))
    | 4 =>
      refine Ks_eq (by rw [x_shown]) ?_
      exact ih _ _ _ h
    | 5 =>
      refine Ks_eq (by rw [x_shown]) ?_
      exact Ks_so h
    | b + 6 =>
      exact Ks_eq (by rw [x_shown]) Ks_no
theorem ks_shape : ∀ (k b : Nat) (L : Nat → Int32) (σ : MS), ks w σ → Ks w (x_shape k b L σ) := by
  intro k
  induction k with
  | zero => intro b L σ _; exact Ks_no
  | succ k ih =>
    intro b L σ h
    match b with
    | 0 =>
      refine Ks_eq (by rw [x_shape]) ?_
      exact Ks_ite (ih _ _ _ h) (Ks_ite (ih _ _ _ h) (ih _ _ _ h))
    | 1 =>
      refine Ks_eq (by rw [x_shape]) ?_
      exact ih _ _ _ h
    | 2 =>
      refine Ks_eq (by rw [x_shape]) ?_
      exact ih _ _ _ h
    | 3 =>
      refine Ks_eq (by rw [x_shape]) ?_
      exact Ks_ob (ks_good _ _ _ _ h) (fun _ h651 => Ks_ite (Ks_so h651) (ih _ _ _ h651))
    | 4 =>
      refine Ks_eq (by rw [x_shape]) ?_
      exact Ks_ite (Ks_so h) (ih _ _ _ h)
    | 5 =>
      refine Ks_eq (by rw [x_shape]) ?_
      exact Ks_ite (Ks_so h) (ih _ _ _ h)
    | 6 =>
      refine Ks_eq (by rw [x_shape]) ?_
      exact Ks_ite (Ks_ob (ks_kind _ _ _ _ h) (fun _ h652 => Ks_ite (ih _ _ _ h652) (ih _ _ _ h652))) (Ks_no)
    | 7 =>
      refine Ks_eq (by rw [x_shape]) ?_
      exact Ks_ite (Ks_ob (ks_size _ _ _ _ h) (fun _ h653 => ih _ _ _ h653)) (ih _ _ _ h)
    | 8 =>
      refine Ks_eq (by rw [x_shape]) ?_
      exact Ks_ite (ih _ _ _ h) (Ks_ite (ih _ _ _ h) (Ks_no))
    | 9 =>
      refine Ks_eq (by rw [x_shape]) ?_
      exact ih _ _ _ h
    | 10 =>
      refine Ks_eq (by rw [x_shape]) ?_
      exact Ks_so h
    | b + 11 =>
      exact Ks_eq (by rw [x_shape]) Ks_no
theorem ks_order : ∀ (k b : Nat) (L : Nat → Int32) (σ : MS), ks w σ → Ks w (x_order k b L σ) := by
  intro k
  induction k with
  | zero => intro b L σ _; exact Ks_no
  | succ k ih =>
    intro b L σ h
    match b with
    | 0 =>
      refine Ks_eq (by rw [x_order]) ?_
      exact ih _ _ _ h
    | 1 =>
      refine Ks_eq (by rw [x_order]) ?_
      exact Ks_ite (ih _ _ _ h) (Ks_so h)
    | 2 =>
      refine Ks_eq (by rw [x_order]) ?_
      exact Ks_ite (Ks_ite (Ks_ob (ks_compare _ _ _ _ h) (fun _ h654 => Ks_ite (ih _ _ _ h654) (ih _ _ _ h654))) (Ks_no)) (Ks_no)
    | 3 =>
      refine Ks_eq (by rw [x_order]) ?_
      exact Ks_ite (ih _ _ _ h) (ih _ _ _ h)
    | 4 =>
      refine Ks_eq (by rw [x_order]) ?_
      exact ih _ _ _ h
    | 5 =>
      refine Ks_eq (by rw [x_order]) ?_
      exact Ks_so h
    | b + 6 =>
      exact Ks_eq (by rw [x_order]) Ks_no
theorem ks_count : ∀ (k b : Nat) (L : Nat → Int32) (σ : MS), ks w σ → Ks w (x_count k b L σ) := by
  intro k
  induction k with
  | zero => intro b L σ _; exact Ks_no
  | succ k ih =>
    intro b L σ h
    match b with
    | 0 =>
      refine Ks_eq (by rw [x_count]) ?_
      exact Ks_ite (ih _ _ _ h) (Ks_ite (ih _ _ _ h) (ih _ _ _ h))
    | 1 =>
      refine Ks_eq (by rw [x_count]) ?_
      exact ih _ _ _ h
    | 2 =>
      refine Ks_eq (by rw [x_count]) ?_
      exact ih _ _ _ h
    | 3 =>
      refine Ks_eq (by rw [x_count]) ?_
      exact Ks_ob (ks_good _ _ _ _ h) (fun _ h655 => Ks_ite (Ks_so h655) (ih _ _ _ h655))
    | 4 =>
      refine Ks_eq (by rw [x_count]) ?_
      exact Ks_ite (ih _ _ _ h) (Ks_ite (ih _ _ _ h) (Ks_ite (ih _ _ _ h) (Ks_ite (ih _ _ _ h) (ih _ _ _ h))))
    | 5 =>
      refine Ks_eq (by rw [x_count]) ?_
      exact Ks_so h
    | 6 =>
      refine Ks_eq (by rw [x_count]) ?_
      exact Ks_ite (ih _ _ _ h) (ih _ _ _ h)
    | 7 =>
      refine Ks_eq (by rw [x_count]) ?_
      exact ih _ _ _ h
    | 8 =>
      refine Ks_eq (by rw [x_count]) ?_
      exact Ks_so h
    | 9 =>
      refine Ks_eq (by rw [x_count]) ?_
      exact Ks_ite (ih _ _ _ h) (Ks_ite (ih _ _ _ h) (Ks_no))
    | 10 =>
      refine Ks_eq (by rw [x_count]) ?_
      exact ih _ _ _ h
    | 11 =>
      refine Ks_eq (by rw [x_count]) ?_
      exact Ks_so h
    | 12 =>
      refine Ks_eq (by rw [x_count]) ?_
      exact Ks_ite (ih _ _ _ h) (ih _ _ _ h)
    | 13 =>
      refine Ks_eq (by rw [x_count]) ?_
      exact ih _ _ _ h
    | 14 =>
      refine Ks_eq (by rw [x_count]) ?_
      exact Ks_so h
    | 15 =>
      refine Ks_eq (by rw [x_count]) ?_
      exact Ks_so h
    | b + 16 =>
      exact Ks_eq (by rw [x_count]) Ks_no
theorem ks_feed : ∀ (k b : Nat) (L : Nat → Int32) (σ : MS), ks w σ → Ks w (x_feed k b L σ) := by
  intro k
  induction k with
  | zero => intro b L σ _; exact Ks_no
  | succ k ih =>
    intro b L σ h
    match b with
    | 0 =>
      refine Ks_eq (by rw [x_feed]) ?_
      exact Ks_ite (ih _ _ _ h) (ih _ _ _ h)
    | 1 =>
      refine Ks_eq (by rw [x_feed]) ?_
      exact ih _ _ _ h
    | 2 =>
      refine Ks_eq (by rw [x_feed]) ?_
      exact Ks_ob (ks_good _ _ _ _ h) (fun _ h656 => Ks_ite (Ks_so h656) (ih _ _ _ h656))
    | 3 =>
      refine Ks_eq (by rw [x_feed]) ?_
      exact ih _ _ _ h
    | 4 =>
      refine Ks_eq (by rw [x_feed]) ?_
      exact Ks_ite (ih _ _ _ h) (Ks_ite (ih _ _ _ h) (ih _ _ _ h))
    | 5 =>
      refine Ks_eq (by rw [x_feed]) ?_
      exact Ks_ite (ih _ _ _ h) (ih _ _ _ h)
    | 6 =>
      refine Ks_eq (by rw [x_feed]) ?_
      exact Ks_ite (ih _ _ _ h) (ih _ _ _ h)
    | 7 =>
      refine Ks_eq (by rw [x_feed]) ?_
      exact Ks_ite (ih _ _ _ h) (ih _ _ _ h)
    | 8 =>
      refine Ks_eq (by rw [x_feed]) ?_
      exact ih _ _ _ h
    | 9 =>
      refine Ks_eq (by rw [x_feed]) ?_
      exact Ks_ite (Ks_no) (Ks_ite (ih _ _ _ h) (Ks_no))
    | 10 =>
      refine Ks_eq (by rw [x_feed]) ?_
      exact ih _ _ _ h
    | 11 =>
      refine Ks_eq (by rw [x_feed]) ?_
      exact ih _ _ _ h
    | 12 =>
      refine Ks_eq (by rw [x_feed]) ?_
      exact Ks_so h
    | b + 13 =>
      exact Ks_eq (by rw [x_feed]) Ks_no
theorem ks_end : ∀ (k b : Nat) (L : Nat → Int32) (σ : MS), ks w σ → Ks w (x_end k b L σ) := by
  intro k
  induction k with
  | zero => intro b L σ _; exact Ks_no
  | succ k ih =>
    intro b L σ h
    match b with
    | 0 =>
      refine Ks_eq (by rw [x_end]) ?_
      exact Ks_ite (ih _ _ _ h) (Ks_ite (ih _ _ _ h) (ih _ _ _ h))
    | 1 =>
      refine Ks_eq (by rw [x_end]) ?_
      exact ih _ _ _ h
    | 2 =>
      refine Ks_eq (by rw [x_end]) ?_
      exact ih _ _ _ h
    | 3 =>
      refine Ks_eq (by rw [x_end]) ?_
      exact Ks_ob (ks_good _ _ _ _ h) (fun _ h657 => Ks_ite (ih _ _ _ h657) (ih _ _ _ h657))
    | 4 =>
      refine Ks_eq (by rw [x_end]) ?_
      exact Ks_so h
    | b + 5 =>
      exact Ks_eq (by rw [x_end]) Ks_no
theorem ks_fault_ : ∀ (k b : Nat) (L : Nat → Int32) (σ : MS), ks w σ → Ks w (x_fault_ k b L σ) := by
  intro k
  induction k with
  | zero => intro b L σ _; exact Ks_no
  | succ k ih =>
    intro b L σ h
    match b with
    | 0 =>
      refine Ks_eq (by rw [x_fault_]) ?_
      exact ih _ _ _ h
    | 1 =>
      refine Ks_eq (by rw [x_fault_]) ?_
      exact Ks_so h
    | b + 2 =>
      exact Ks_eq (by rw [x_fault_]) Ks_no
theorem ks_workAlone : ∀ (k b : Nat) (L : Nat → Int32) (σ : MS), ks w σ → Ks w (x_workAlone k b L σ) := by
  intro k
  induction k with
  | zero => intro b L σ _; exact Ks_no
  | succ k ih =>
    intro b L σ h
    match b with
    | 0 =>
      refine Ks_eq (by rw [x_workAlone]) ?_
      exact ih _ _ _ h
    | 1 =>
      refine Ks_eq (by rw [x_workAlone]) ?_
      exact ih _ _ _ h
    | 2 =>
      refine Ks_eq (by rw [x_workAlone]) ?_
      exact ih _ _ _ h
    | 3 =>
      refine Ks_eq (by rw [x_workAlone]) ?_
      exact ih _ _ _ h
    | 4 =>
      refine Ks_eq (by rw [x_workAlone]) ?_
      exact ih _ _ _ h
    | 5 =>
      refine Ks_eq (by rw [x_workAlone]) ?_
      exact ih _ _ _ h
    | 6 =>
      refine Ks_eq (by rw [x_workAlone]) ?_
      exact ih _ _ _ h
    | 7 =>
      refine Ks_eq (by rw [x_workAlone]) ?_
      exact ih _ _ _ h
    | 8 =>
      refine Ks_eq (by rw [x_workAlone]) ?_
      exact Ks_ob (ks_sweep _ _ _ _ h) (fun _ h658 => Ks_ob (ks_eval _ _ _ _ h658) (fun _ h659 => ih _ _ _ h659))
    | 9 =>
      refine Ks_eq (by rw [x_workAlone]) ?_
      exact Ks_ite (ih _ _ _ h) (Ks_ob (ks_forget _ _ _ _ h) (fun _ h660 => ih _ _ _ h660))
    | 10 =>
      refine Ks_eq (by rw [x_workAlone]) ?_
      exact Ks_so h
    | b + 11 =>
      exact Ks_eq (by rw [x_workAlone]) Ks_no
theorem ks_load__54 : ∀ (k b : Nat) (L : Nat → Int32) (σ : MS), ks w σ → Ks w (x_load__54 k b L σ) := by
  intro k
  induction k with
  | zero => intro b L σ _; exact Ks_no
  | succ k ih =>
    intro b L σ h
    match b with
    | 0 =>
      refine Ks_eq (by rw [x_load__54]) ?_
      exact ih _ _ _ h
    | 1 =>
      refine Ks_eq (by rw [x_load__54]) ?_
      exact Ks_ite (ih _ _ _ h) (Ks_ite (Ks_ite (ih _ _ _ h) (Ks_no)) (Ks_no))
    | 2 =>
      refine Ks_eq (by rw [x_load__54]) ?_
      exact ih _ _ _ h
    | 3 =>
      refine Ks_eq (by rw [x_load__54]) ?_
      exact Ks_so h
    | b + 4 =>
      exact Ks_eq (by rw [x_load__54]) Ks_no
theorem ks_load__56 : ∀ (k b : Nat) (L : Nat → Int32) (σ : MS), ks w σ → Ks w (x_load__56 k b L σ) := by
  intro k
  induction k with
  | zero => intro b L σ _; exact Ks_no
  | succ k ih =>
    intro b L σ h
    match b with
    | 0 =>
      refine Ks_eq (by rw [x_load__56]) ?_
      exact ih _ _ _ h
    | 1 =>
      refine Ks_eq (by rw [x_load__56]) ?_
      exact Ks_ite (ih _ _ _ h) (Ks_ite (Ks_ite (ih _ _ _ h) (Ks_no)) (Ks_no))
    | 2 =>
      refine Ks_eq (by rw [x_load__56]) ?_
      exact ih _ _ _ h
    | 3 =>
      refine Ks_eq (by rw [x_load__56]) ?_
      exact Ks_so h
    | b + 4 =>
      exact Ks_eq (by rw [x_load__56]) Ks_no
end KSS
theorem Tm_ks {w : KsT} {f : Nat → Option (Int32 × MS)} {P : Int32 × MS → Prop} (t : Tm f P) (h : ∀ k, Ks w (f k)) : Tm f (fun r => P r ∧ ks w r.2) := by
  obtain ⟨r, k0, h1, h2⟩ := t
  exact ⟨r, k0, h1, h2, h k0 r (h1 k0 (Nat.le_refl _))⟩
