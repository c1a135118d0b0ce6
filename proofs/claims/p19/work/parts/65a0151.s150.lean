/-! Fuel: more of it gives the same (reference; made by fu.py). -/
def Ole (x y : Option (Int32 × MS)) : Prop := ∀ r, x = some r → y = some r
theorem Ole_rf (x : Option (Int32 × MS)) : Ole x x := fun _ h => h
theorem Ole_no (x : Option (Int32 × MS)) : Ole none x := fun _ h => by cases h
theorem Ole_eq {a b a' b' : Option (Int32 × MS)} (h1 : a = a') (h2 : b = b') (h : Ole a' b') : Ole a b := by rw [h1, h2]; exact h
theorem Ole_ob {x y : Option (Int32 × MS)} {f g : Int32 × MS → Option (Int32 × MS)} (h1 : Ole x y) (h2 : ∀ r, Ole (f r) (g r)) : Ole (ob x f) (ob y g) := by
  intro r hr
  cases x with
  | none => cases hr
  | some s => rw [h1 s rfl]; exact h2 s r hr
theorem Ole_ite {c : Prop} {_ : Decidable c} {a b a' b' : Option (Int32 × MS)} (h1 : Ole a a') (h2 : Ole b b') : Ole (if c then a else b) (if c then a' else b') := by
  by_cases h : c
  · rw [if_pos h, if_pos h]; exact h1
  · rw [if_neg h, if_neg h]; exact h2
theorem Ole_od {d : Nat} {f g : Nat → Option (Int32 × MS)} (h : ∀ e, Ole (f e) (g e)) : Ole (od d f) (od d g) := by
  cases d with
  | zero => exact Ole_no _
  | succ e => exact h e
theorem f_copied : ∀ (k b : Nat) (L : Nat → Int32) (σ : MS), Ole (x_copied k b L σ) (x_copied (k + 1) b L σ) := by
  intro k
  induction k with
  | zero => intro b L σ; exact Ole_no _
  | succ k ih =>
    intro b L σ
    match b with
    | 0 =>
      refine Ole_eq (by rw [x_copied]) (by rw [x_copied]) ?_
      exact Ole_ite (ih _ _ _) (Ole_rf _)
    | 1 =>
      refine Ole_eq (by rw [x_copied]) (by rw [x_copied]) ?_
      exact Ole_ite (Ole_ite (Ole_ite (Ole_rf _) (Ole_rf _)) (ih _ _ _)) (Ole_rf _)
    | 2 =>
      refine Ole_eq (by rw [x_copied]) (by rw [x_copied]) ?_
      exact Ole_ite (ih _ _ _) (Ole_rf _)
    | 3 =>
      refine Ole_eq (by rw [x_copied]) (by rw [x_copied]) ?_
      exact ih _ _ _
    | 4 =>
      refine Ole_eq (by rw [x_copied]) (by rw [x_copied]) ?_
      exact Ole_ite (ih _ _ _) (Ole_ite (Ole_ite (ih _ _ _) (Ole_rf _)) (Ole_rf _))
    | 5 =>
      refine Ole_eq (by rw [x_copied]) (by rw [x_copied]) ?_
      exact ih _ _ _
    | 6 =>
      refine Ole_eq (by rw [x_copied]) (by rw [x_copied]) ?_
      exact Ole_ite (ih _ _ _) (Ole_rf _)
    | 7 =>
      refine Ole_eq (by rw [x_copied]) (by rw [x_copied]) ?_
      exact Ole_ite (ih _ _ _) (Ole_rf _)
    | 8 =>
      refine Ole_eq (by rw [x_copied]) (by rw [x_copied]) ?_
      exact Ole_rf _
    | b + 9 =>
      refine Ole_eq (by rw [x_copied]) (by rw [x_copied]) (Ole_no _)
theorem f_copyRow__29 : ∀ (k b : Nat) (L : Nat → Int32) (σ : MS), Ole (x_copyRow__29 k b L σ) (x_copyRow__29 (k + 1) b L σ) := by
  intro k
  induction k with
  | zero => intro b L σ; exact Ole_no _
  | succ k ih =>
    intro b L σ
    match b with
    | 0 =>
      refine Ole_eq (by rw [x_copyRow__29]) (by rw [x_copyRow__29]) ?_
      exact ih _ _ _
    | 1 =>
      refine Ole_eq (by rw [x_copyRow__29]) (by rw [x_copyRow__29]) ?_
      exact Ole_ite (ih _ _ _) (Ole_ite (Ole_ob (f_copied k _ _ _) (fun _ => Ole_ite (ih _ _ _) (Ole_rf _))) (Ole_rf _))
    | 2 =>
      refine Ole_eq (by rw [x_copyRow__29]) (by rw [x_copyRow__29]) ?_
      exact ih _ _ _
    | 3 =>
      refine Ole_eq (by rw [x_copyRow__29]) (by rw [x_copyRow__29]) ?_
      exact Ole_rf _
    | b + 4 =>
      refine Ole_eq (by rw [x_copyRow__29]) (by rw [x_copyRow__29]) (Ole_no _)
theorem f_copyRow__30 : ∀ (k b : Nat) (L : Nat → Int32) (σ : MS), Ole (x_copyRow__30 k b L σ) (x_copyRow__30 (k + 1) b L σ) := by
  intro k
  induction k with
  | zero => intro b L σ; exact Ole_no _
  | succ k ih =>
    intro b L σ
    match b with
    | 0 =>
      refine Ole_eq (by rw [x_copyRow__30]) (by rw [x_copyRow__30]) ?_
      exact ih _ _ _
    | 1 =>
      refine Ole_eq (by rw [x_copyRow__30]) (by rw [x_copyRow__30]) ?_
      exact Ole_ite (ih _ _ _) (Ole_ite (Ole_ob (f_copied k _ _ _) (fun _ => Ole_ite (ih _ _ _) (Ole_rf _))) (Ole_rf _))
    | 2 =>
      refine Ole_eq (by rw [x_copyRow__30]) (by rw [x_copyRow__30]) ?_
      exact ih _ _ _
    | 3 =>
      refine Ole_eq (by rw [x_copyRow__30]) (by rw [x_copyRow__30]) ?_
      exact Ole_rf _
    | b + 4 =>
      refine Ole_eq (by rw [x_copyRow__30]) (by rw [x_copyRow__30]) (Ole_no _)
theorem f_copyState__30 : ∀ (k b : Nat) (L : Nat → Int32) (σ : MS), Ole (x_copyState__30 k b L σ) (x_copyState__30 (k + 1) b L σ) := by
  intro k
  induction k with
  | zero => intro b L σ; exact Ole_no _
  | succ k ih =>
    intro b L σ
    match b with
    | 0 =>
      refine Ole_eq (by rw [x_copyState__30]) (by rw [x_copyState__30]) ?_
      exact Ole_ob (f_copyRow__30 k _ _ _) (fun _ => Ole_ite (Ole_ob (f_copyRow__30 k _ _ _) (fun _ => Ole_ite (Ole_ob (f_copyRow__30 k _ _ _) (fun _ => Ole_rf _)) (Ole_rf _))) (Ole_rf _))
    | b + 1 =>
      refine Ole_eq (by rw [x_copyState__30]) (by rw [x_copyState__30]) (Ole_no _)
theorem f_copyRow__31 : ∀ (k b : Nat) (L : Nat → Int32) (σ : MS), Ole (x_copyRow__31 k b L σ) (x_copyRow__31 (k + 1) b L σ) := by
  intro k
  induction k with
  | zero => intro b L σ; exact Ole_no _
  | succ k ih =>
    intro b L σ
    match b with
    | 0 =>
      refine Ole_eq (by rw [x_copyRow__31]) (by rw [x_copyRow__31]) ?_
      exact ih _ _ _
    | 1 =>
      refine Ole_eq (by rw [x_copyRow__31]) (by rw [x_copyRow__31]) ?_
      exact Ole_ite (ih _ _ _) (Ole_ite (Ole_ob (f_copied k _ _ _) (fun _ => Ole_ite (ih _ _ _) (Ole_rf _))) (Ole_rf _))
    | 2 =>
      refine Ole_eq (by rw [x_copyRow__31]) (by rw [x_copyRow__31]) ?_
      exact ih _ _ _
    | 3 =>
      refine Ole_eq (by rw [x_copyRow__31]) (by rw [x_copyRow__31]) ?_
      exact Ole_rf _
    | b + 4 =>
      refine Ole_eq (by rw [x_copyRow__31]) (by rw [x_copyRow__31]) (Ole_no _)
theorem f_copyState__31 : ∀ (k b : Nat) (L : Nat → Int32) (σ : MS), Ole (x_copyState__31 k b L σ) (x_copyState__31 (k + 1) b L σ) := by
  intro k
  induction k with
  | zero => intro b L σ; exact Ole_no _
  | succ k ih =>
    intro b L σ
    match b with
    | 0 =>
      refine Ole_eq (by rw [x_copyState__31]) (by rw [x_copyState__31]) ?_
      exact Ole_ob (f_copyRow__31 k _ _ _) (fun _ => Ole_ite (Ole_ob (f_copyRow__31 k _ _ _) (fun _ => Ole_ite (Ole_ob (f_copyRow__31 k _ _ _) (fun _ => Ole_rf _)) (Ole_rf _))) (Ole_rf _))
    | b + 1 =>
      refine Ole_eq (by rw [x_copyState__31]) (by rw [x_copyState__31]) (Ole_no _)
theorem f_copyRow__33 : ∀ (k b : Nat) (L : Nat → Int32) (σ : MS), Ole (x_copyRow__33 k b L σ) (x_copyRow__33 (k + 1) b L σ) := by
  intro k
  induction k with
  | zero => intro b L σ; exact Ole_no _
  | succ k ih =>
    intro b L σ
    match b with
    | 0 =>
      refine Ole_eq (by rw [x_copyRow__33]) (by rw [x_copyRow__33]) ?_
      exact ih _ _ _
    | 1 =>
      refine Ole_eq (by rw [x_copyRow__33]) (by rw [x_copyRow__33]) ?_
      exact Ole_ite (ih _ _ _) (Ole_ite (Ole_ob (f_copied k _ _ _) (fun _ => Ole_ite (ih _ _ _) (Ole_rf _))) (Ole_rf _))
    | 2 =>
      refine Ole_eq (by rw [x_copyRow__33]) (by rw [x_copyRow__33]) ?_
      exact ih _ _ _
    | 3 =>
      refine Ole_eq (by rw [x_copyRow__33]) (by rw [x_copyRow__33]) ?_
      exact Ole_rf _
    | b + 4 =>
      refine Ole_eq (by rw [x_copyRow__33]) (by rw [x_copyRow__33]) (Ole_no _)
theorem f_copyRow__34 : ∀ (k b : Nat) (L : Nat → Int32) (σ : MS), Ole (x_copyRow__34 k b L σ) (x_copyRow__34 (k + 1) b L σ) := by
  intro k
  induction k with
  | zero => intro b L σ; exact Ole_no _
  | succ k ih =>
    intro b L σ
    match b with
    | 0 =>
      refine Ole_eq (by rw [x_copyRow__34]) (by rw [x_copyRow__34]) ?_
      exact ih _ _ _
    | 1 =>
      refine Ole_eq (by rw [x_copyRow__34]) (by rw [x_copyRow__34]) ?_
      exact Ole_ite (ih _ _ _) (Ole_ite (Ole_ob (f_copied k _ _ _) (fun _ => Ole_ite (ih _ _ _) (Ole_rf _))) (Ole_rf _))
    | 2 =>
      refine Ole_eq (by rw [x_copyRow__34]) (by rw [x_copyRow__34]) ?_
      exact ih _ _ _
    | 3 =>
      refine Ole_eq (by rw [x_copyRow__34]) (by rw [x_copyRow__34]) ?_
      exact Ole_rf _
    | b + 4 =>
      refine Ole_eq (by rw [x_copyRow__34]) (by rw [x_copyRow__34]) (Ole_no _)
theorem f_copyRow__36 : ∀ (k b : Nat) (L : Nat → Int32) (σ : MS), Ole (x_copyRow__36 k b L σ) (x_copyRow__36 (k + 1) b L σ) := by
  intro k
  induction k with
  | zero => intro b L σ; exact Ole_no _
  | succ k ih =>
    intro b L σ
    match b with
    | 0 =>
      refine Ole_eq (by rw [x_copyRow__36]) (by rw [x_copyRow__36]) ?_
      exact ih _ _ _
    | 1 =>
      refine Ole_eq (by rw [x_copyRow__36]) (by rw [x_copyRow__36]) ?_
      exact Ole_ite (ih _ _ _) (Ole_ite (Ole_ob (f_copied k _ _ _) (fun _ => Ole_ite (ih _ _ _) (Ole_rf _))) (Ole_rf _))
    | 2 =>
      refine Ole_eq (by rw [x_copyRow__36]) (by rw [x_copyRow__36]) ?_
      exact ih _ _ _
    | 3 =>
      refine Ole_eq (by rw [x_copyRow__36]) (by rw [x_copyRow__36]) ?_
      exact Ole_rf _
    | b + 4 =>
      refine Ole_eq (by rw [x_copyRow__36]) (by rw [x_copyRow__36]) (Ole_no _)
theorem f_copyRow__37 : ∀ (k b : Nat) (L : Nat → Int32) (σ : MS), Ole (x_copyRow__37 k b L σ) (x_copyRow__37 (k + 1) b L σ) := by
  intro k
  induction k with
  | zero => intro b L σ; exact Ole_no _
  | succ k ih =>
    intro b L σ
    match b with
    | 0 =>
      refine Ole_eq (by rw [x_copyRow__37]) (by rw [x_copyRow__37]) ?_
      exact ih _ _ _
    | 1 =>
      refine Ole_eq (by rw [x_copyRow__37]) (by rw [x_copyRow__37]) ?_
      exact Ole_ite (ih _ _ _) (Ole_ite (Ole_ob (f_copied k _ _ _) (fun _ => Ole_ite (ih _ _ _) (Ole_rf _))) (Ole_rf _))
    | 2 =>
      refine Ole_eq (by rw [x_copyRow__37]) (by rw [x_copyRow__37]) ?_
      exact ih _ _ _
    | 3 =>
      refine Ole_eq (by rw [x_copyRow__37]) (by rw [x_copyRow__37]) ?_
      exact Ole_rf _
    | b + 4 =>
      refine Ole_eq (by rw [x_copyRow__37]) (by rw [x_copyRow__37]) (Ole_no _)
theorem f_copyRow__38 : ∀ (k b : Nat) (L : Nat → Int32) (σ : MS), Ole (x_copyRow__38 k b L σ) (x_copyRow__38 (k + 1) b L σ) := by
  intro k
  induction k with
  | zero => intro b L σ; exact Ole_no _
  | succ k ih =>
    intro b L σ
    match b with
    | 0 =>
      refine Ole_eq (by rw [x_copyRow__38]) (by rw [x_copyRow__38]) ?_
      exact ih _ _ _
    | 1 =>
      refine Ole_eq (by rw [x_copyRow__38]) (by rw [x_copyRow__38]) ?_
      exact Ole_ite (ih _ _ _) (Ole_ite (Ole_ob (f_copied k _ _ _) (fun _ => Ole_ite (ih _ _ _) (Ole_rf _))) (Ole_rf _))
    | 2 =>
      refine Ole_eq (by rw [x_copyRow__38]) (by rw [x_copyRow__38]) ?_
      exact ih _ _ _
    | 3 =>
      refine Ole_eq (by rw [x_copyRow__38]) (by rw [x_copyRow__38]) ?_
      exact Ole_rf _
    | b + 4 =>
      refine Ole_eq (by rw [x_copyRow__38]) (by rw [x_copyRow__38]) (Ole_no _)
theorem f_copyRow__40 : ∀ (k b : Nat) (L : Nat → Int32) (σ : MS), Ole (x_copyRow__40 k b L σ) (x_copyRow__40 (k + 1) b L σ) := by
  intro k
  induction k with
  | zero => intro b L σ; exact Ole_no _
  | succ k ih =>
    intro b L σ
    match b with
    | 0 =>
      refine Ole_eq (by rw [x_copyRow__40]) (by rw [x_copyRow__40]) ?_
      exact ih _ _ _
    | 1 =>
      refine Ole_eq (by rw [x_copyRow__40]) (by rw [x_copyRow__40]) ?_
      exact Ole_ite (ih _ _ _) (Ole_ite (Ole_ob (f_copied k _ _ _) (fun _ => Ole_ite (ih _ _ _) (Ole_rf _))) (Ole_rf _))
    | 2 =>
      refine Ole_eq (by rw [x_copyRow__40]) (by rw [x_copyRow__40]) ?_
      exact ih _ _ _
    | 3 =>
      refine Ole_eq (by rw [x_copyRow__40]) (by rw [x_copyRow__40]) ?_
      exact Ole_rf _
    | b + 4 =>
      refine Ole_eq (by rw [x_copyRow__40]) (by rw [x_copyRow__40]) (Ole_no _)
theorem f_copyRow__28 : ∀ (k b : Nat) (L : Nat → Int32) (σ : MS), Ole (x_copyRow__28 k b L σ) (x_copyRow__28 (k + 1) b L σ) := by
  intro k
  induction k with
  | zero => intro b L σ; exact Ole_no _
  | succ k ih =>
    intro b L σ
    match b with
    | 0 =>
      refine Ole_eq (by rw [x_copyRow__28]) (by rw [x_copyRow__28]) ?_
      exact ih _ _ _
    | 1 =>
      refine Ole_eq (by rw [x_copyRow__28]) (by rw [x_copyRow__28]) ?_
      exact Ole_ite (ih _ _ _) (Ole_ite (Ole_ob (f_copied k _ _ _) (fun _ => Ole_ite (ih _ _ _) (Ole_rf _))) (Ole_rf _))
    | 2 =>
      refine Ole_eq (by rw [x_copyRow__28]) (by rw [x_copyRow__28]) ?_
      exact ih _ _ _
    | 3 =>
      refine Ole_eq (by rw [x_copyRow__28]) (by rw [x_copyRow__28]) ?_
      exact Ole_rf _
    | b + 4 =>
      refine Ole_eq (by rw [x_copyRow__28]) (by rw [x_copyRow__28]) (Ole_no _)
theorem f_sweep : ∀ (k b : Nat) (L : Nat → Int32) (σ : MS), Ole (x_sweep k b L σ) (x_sweep (k + 1) b L σ) := by
  intro k
  induction k with
  | zero => intro b L σ; exact Ole_no _
  | succ k ih =>
    intro b L σ
    match b with
    | 0 =>
      refine Ole_eq (by rw [x_sweep]) (by rw [x_sweep]) ?_
      exact Ole_ite (ih _ _ _) (Ole_rf _)
    | 1 =>
      refine Ole_eq (by rw [x_sweep]) (by rw [x_sweep]) ?_
      exact Ole_ite (ih _ _ _) (ih _ _ _)
    | 2 =>
      refine Ole_eq (by rw [x_sweep]) (by rw [x_sweep]) ?_
      exact ih _ _ _
    | 3 =>
      refine Ole_eq (by rw [x_sweep]) (by rw [x_sweep]) ?_
      exact ih _ _ _
    | 4 =>
      refine Ole_eq (by rw [x_sweep]) (by rw [x_sweep]) ?_
      exact ih _ _ _
    | 5 =>
      refine Ole_eq (by rw [x_sweep]) (by rw [x_sweep]) ?_
      exact Ole_ob (f_copyRow__29 k _ _ _) (fun _ => Ole_ob (f_copyState__30 k _ _ _) (fun _ => ih _ _ _))
    | 6 =>
      refine Ole_eq (by rw [x_sweep]) (by rw [x_sweep]) ?_
      exact Ole_ite (ih _ _ _) (Ole_ob (f_copyState__31 k _ _ _) (fun _ => ih _ _ _))
    | 7 =>
      refine Ole_eq (by rw [x_sweep]) (by rw [x_sweep]) ?_
      exact Ole_ob (f_copyRow__33 k _ _ _) (fun _ => Ole_ob (f_copyRow__34 k _ _ _) (fun _ => Ole_ob (f_copyRow__36 k _ _ _) (fun _ => Ole_ob (f_copyRow__37 k _ _ _) (fun _ => Ole_ob (f_copyRow__38 k _ _ _) (fun _ => Ole_ob (f_copyRow__40 k _ _ _) (fun _ => ih _ _ _))))))
    | 8 =>
      refine Ole_eq (by rw [x_sweep]) (by rw [x_sweep]) ?_
      exact Ole_ite (ih _ _ _) (Ole_ite (Ole_ite (Ole_ite (ih _ _ _) (Ole_ite (ih _ _ _) (ih _ _ _))) (Ole_rf _)) (Ole_rf _))
    | 9 =>
      refine Ole_eq (by rw [x_sweep]) (by rw [x_sweep]) ?_
      exact Ole_ob (f_copyRow__28 k _ _ _) (fun _ => ih _ _ _)
    | 10 =>
      refine Ole_eq (by rw [x_sweep]) (by rw [x_sweep]) ?_
      exact ih _ _ _
    | 11 =>
      refine Ole_eq (by rw [x_sweep]) (by rw [x_sweep]) ?_
      exact Ole_rf _
    | b + 12 =>
      refine Ole_eq (by rw [x_sweep]) (by rw [x_sweep]) (Ole_no _)
theorem f_fail : ∀ (k b : Nat) (L : Nat → Int32) (σ : MS), Ole (x_fail k b L σ) (x_fail (k + 1) b L σ) := by
  intro k
  induction k with
  | zero => intro b L σ; exact Ole_no _
  | succ k ih =>
    intro b L σ
    match b with
    | 0 =>
      refine Ole_eq (by rw [x_fail]) (by rw [x_fail]) ?_
      exact Ole_ite (ih _ _ _) (ih _ _ _)
    | 1 =>
      refine Ole_eq (by rw [x_fail]) (by rw [x_fail]) ?_
      exact ih _ _ _
    | 2 =>
      refine Ole_eq (by rw [x_fail]) (by rw [x_fail]) ?_
      exact Ole_rf _
    | b + 3 =>
      refine Ole_eq (by rw [x_fail]) (by rw [x_fail]) (Ole_no _)
theorem f_make : ∀ (k b : Nat) (L : Nat → Int32) (σ : MS), Ole (x_make k b L σ) (x_make (k + 1) b L σ) := by
  intro k
  induction k with
  | zero => intro b L σ; exact Ole_no _
  | succ k ih =>
    intro b L σ
    match b with
    | 0 =>
      refine Ole_eq (by rw [x_make]) (by rw [x_make]) ?_
      exact Ole_ite (ih _ _ _) (Ole_ob (f_fail k _ _ _) (fun _ => Ole_rf _))
    | 1 =>
      refine Ole_eq (by rw [x_make]) (by rw [x_make]) ?_
      exact ih _ _ _
    | 2 =>
      refine Ole_eq (by rw [x_make]) (by rw [x_make]) ?_
      exact Ole_ite (ih _ _ _) (Ole_rf _)
    | 3 =>
      refine Ole_eq (by rw [x_make]) (by rw [x_make]) ?_
      exact Ole_ite (ih _ _ _) (Ole_rf _)
    | 4 =>
      refine Ole_eq (by rw [x_make]) (by rw [x_make]) ?_
      exact Ole_ite (ih _ _ _) (Ole_rf _)
    | 5 =>
      refine Ole_eq (by rw [x_make]) (by rw [x_make]) ?_
      exact Ole_ite (ih _ _ _) (Ole_rf _)
    | 6 =>
      refine Ole_eq (by rw [x_make]) (by rw [x_make]) ?_
      exact Ole_rf _
    | b + 7 =>
      refine Ole_eq (by rw [x_make]) (by rw [x_make]) (Ole_no _)
theorem f_wholeOf : ∀ (k b : Nat) (L : Nat → Int32) (σ : MS), Ole (x_wholeOf k b L σ) (x_wholeOf (k + 1) b L σ) := by
  intro k
  induction k with
  | zero => intro b L σ; exact Ole_no _
  | succ k ih =>
    intro b L σ
    match b with
    | 0 =>
      refine Ole_eq (by rw [x_wholeOf]) (by rw [x_wholeOf]) ?_
      exact Ole_ite (ih _ _ _) (Ole_ite (Ole_ite (ih _ _ _) (ih _ _ _)) (Ole_rf _))
    | 1 =>
      refine Ole_eq (by rw [x_wholeOf]) (by rw [x_wholeOf]) ?_
      exact Ole_ite (ih _ _ _) (Ole_ob (f_fail k _ _ _) (fun _ => Ole_rf _))
    | 2 =>
      refine Ole_eq (by rw [x_wholeOf]) (by rw [x_wholeOf]) ?_
      exact Ole_ob (f_make k _ _ _) (fun _ => Ole_ite (ih _ _ _) (Ole_rf _))
    | 3 =>
      refine Ole_eq (by rw [x_wholeOf]) (by rw [x_wholeOf]) ?_
      exact Ole_ite (ih _ _ _) (ih _ _ _)
    | 4 =>
      refine Ole_eq (by rw [x_wholeOf]) (by rw [x_wholeOf]) ?_
      exact ih _ _ _
    | 5 =>
      refine Ole_eq (by rw [x_wholeOf]) (by rw [x_wholeOf]) ?_
      exact Ole_ite (ih _ _ _) (Ole_rf _)
    | 6 =>
      refine Ole_eq (by rw [x_wholeOf]) (by rw [x_wholeOf]) ?_
      exact ih _ _ _
    | 7 =>
      refine Ole_eq (by rw [x_wholeOf]) (by rw [x_wholeOf]) ?_
      exact Ole_ite (ih _ _ _) (Ole_ite (Ole_ite (ih _ _ _) (Ole_rf _)) (Ole_rf _))
    | 8 =>
      refine Ole_eq (by rw [x_wholeOf]) (by rw [x_wholeOf]) ?_
      exact ih _ _ _
    | 9 =>
      refine Ole_eq (by rw [x_wholeOf]) (by rw [x_wholeOf]) ?_
      exact Ole_ite (Ole_rf _) (Ole_ite (ih _ _ _) (Ole_rf _))
    | 10 =>
      refine Ole_eq (by rw [x_wholeOf]) (by rw [x_wholeOf]) ?_
      exact Ole_rf _
    | b + 11 =>
      refine Ole_eq (by rw [x_wholeOf]) (by rw [x_wholeOf]) (Ole_no _)
theorem f_literal : ∀ (k b : Nat) (L : Nat → Int32) (σ : MS), Ole (x_literal k b L σ) (x_literal (k + 1) b L σ) := by
  intro k
  induction k with
  | zero => intro b L σ; exact Ole_no _
  | succ k ih =>
    intro b L σ
    match b with
    | 0 =>
      refine Ole_eq (by rw [x_literal]) (by rw [x_literal]) ?_
      exact ih _ _ _
    | 1 =>
      refine Ole_eq (by rw [x_literal]) (by rw [x_literal]) ?_
      exact ih _ _ _
    | 2 =>
      refine Ole_eq (by rw [x_literal]) (by rw [x_literal]) ?_
      exact Ole_ite (ih _ _ _) (Ole_ite (ih _ _ _) (Ole_rf _))
    | 3 =>
      refine Ole_eq (by rw [x_literal]) (by rw [x_literal]) ?_
      exact Ole_ite (ih _ _ _) (Ole_ite (Ole_ite (ih _ _ _) (Ole_rf _)) (Ole_rf _))
    | 4 =>
      refine Ole_eq (by rw [x_literal]) (by rw [x_literal]) ?_
      exact ih _ _ _
    | 5 =>
      refine Ole_eq (by rw [x_literal]) (by rw [x_literal]) ?_
      exact Ole_ite (ih _ _ _) (Ole_ite (ih _ _ _) (Ole_rf _))
    | 6 =>
      refine Ole_eq (by rw [x_literal]) (by rw [x_literal]) ?_
      exact ih _ _ _
    | 7 =>
      refine Ole_eq (by rw [x_literal]) (by rw [x_literal]) ?_
      exact ih _ _ _
    | 8 =>
      refine Ole_eq (by rw [x_literal]) (by rw [x_literal]) ?_
      exact Ole_ob (f_wholeOf k _ _ _) (fun _ => Ole_rf _)
    | b + 9 =>
      refine Ole_eq (by rw [x_literal]) (by rw [x_literal]) (Ole_no _)
theorem f_size : ∀ (k b : Nat) (L : Nat → Int32) (σ : MS), Ole (x_size k b L σ) (x_size (k + 1) b L σ) := by
  intro k
  induction k with
  | zero => intro b L σ; exact Ole_no _
  | succ k ih =>
    intro b L σ
    match b with
    | 0 =>
      refine Ole_eq (by rw [x_size]) (by rw [x_size]) ?_
      exact Ole_ite (ih _ _ _) (ih _ _ _)
    | 1 =>
      refine Ole_eq (by rw [x_size]) (by rw [x_size]) ?_
      exact Ole_ite (ih _ _ _) (Ole_rf _)
    | 2 =>
      refine Ole_eq (by rw [x_size]) (by rw [x_size]) ?_
      exact Ole_rf _
    | b + 3 =>
      refine Ole_eq (by rw [x_size]) (by rw [x_size]) (Ole_no _)
theorem f_worked : ∀ (k b : Nat) (L : Nat → Int32) (σ : MS), Ole (x_worked k b L σ) (x_worked (k + 1) b L σ) := by
  intro k
  induction k with
  | zero => intro b L σ; exact Ole_no _
  | succ k ih =>
    intro b L σ
    match b with
    | 0 =>
      refine Ole_eq (by rw [x_worked]) (by rw [x_worked]) ?_
      exact ih _ _ _
    | 1 =>
      refine Ole_eq (by rw [x_worked]) (by rw [x_worked]) ?_
      exact Ole_ite (ih _ _ _) (Ole_ob (f_fail k _ _ _) (fun _ => ih _ _ _))
    | 2 =>
      refine Ole_eq (by rw [x_worked]) (by rw [x_worked]) ?_
      exact Ole_rf _
    | b + 3 =>
      refine Ole_eq (by rw [x_worked]) (by rw [x_worked]) (Ole_no _)
theorem f_answer : ∀ (k b : Nat) (L : Nat → Int32) (σ : MS), Ole (x_answer k b L σ) (x_answer (k + 1) b L σ) := by
  intro k
  induction k with
  | zero => intro b L σ; exact Ole_no _
  | succ k ih =>
    intro b L σ
    match b with
    | 0 =>
      refine Ole_eq (by rw [x_answer]) (by rw [x_answer]) ?_
      exact Ole_ite (Ole_ob (f_size k _ _ _) (fun _ => Ole_ob (f_worked k _ _ _) (fun _ => ih _ _ _))) (ih _ _ _)
    | 1 =>
      refine Ole_eq (by rw [x_answer]) (by rw [x_answer]) ?_
      exact Ole_rf _
    | b + 2 =>
      refine Ole_eq (by rw [x_answer]) (by rw [x_answer]) (Ole_no _)
theorem f_push : ∀ (k b : Nat) (L : Nat → Int32) (σ : MS), Ole (x_push k b L σ) (x_push (k + 1) b L σ) := by
  intro k
  induction k with
  | zero => intro b L σ; exact Ole_no _
  | succ k ih =>
    intro b L σ
    match b with
    | 0 =>
      refine Ole_eq (by rw [x_push]) (by rw [x_push]) ?_
      exact Ole_ite (ih _ _ _) (Ole_rf _)
    | 1 =>
      refine Ole_eq (by rw [x_push]) (by rw [x_push]) ?_
      exact Ole_rf _
    | b + 2 =>
      refine Ole_eq (by rw [x_push]) (by rw [x_push]) (Ole_no _)
theorem f_stringOf__12 : ∀ (k b : Nat) (L : Nat → Int32) (σ : MS), Ole (x_stringOf__12 k b L σ) (x_stringOf__12 (k + 1) b L σ) := by
  intro k
  induction k with
  | zero => intro b L σ; exact Ole_no _
  | succ k ih =>
    intro b L σ
    match b with
    | 0 =>
      refine Ole_eq (by rw [x_stringOf__12]) (by rw [x_stringOf__12]) ?_
      exact Ole_ite (Ole_rf _) (Ole_ite (ih _ _ _) (Ole_ob (f_fail k _ _ _) (fun _ => Ole_rf _)))
    | 1 =>
      refine Ole_eq (by rw [x_stringOf__12]) (by rw [x_stringOf__12]) ?_
      exact Ole_ob (f_make k _ _ _) (fun _ => ih _ _ _)
    | 2 =>
      refine Ole_eq (by rw [x_stringOf__12]) (by rw [x_stringOf__12]) ?_
      exact Ole_ite (ih _ _ _) (Ole_ite (Ole_ite (Ole_ite (ih _ _ _) (Ole_rf _)) (Ole_rf _)) (ih _ _ _))
    | 3 =>
      refine Ole_eq (by rw [x_stringOf__12]) (by rw [x_stringOf__12]) ?_
      exact ih _ _ _
    | 4 =>
      refine Ole_eq (by rw [x_stringOf__12]) (by rw [x_stringOf__12]) ?_
      exact Ole_ite (Ole_rf _) (Ole_ite (ih _ _ _) (Ole_rf _))
    | 5 =>
      refine Ole_eq (by rw [x_stringOf__12]) (by rw [x_stringOf__12]) ?_
      exact Ole_rf _
    | b + 6 =>
      refine Ole_eq (by rw [x_stringOf__12]) (by rw [x_stringOf__12]) (Ole_no _)
theorem f_newAtom : ∀ (k b : Nat) (L : Nat → Int32) (σ : MS), Ole (x_newAtom k b L σ) (x_newAtom (k + 1) b L σ) := by
  intro k
  induction k with
  | zero => intro b L σ; exact Ole_no _
  | succ k ih =>
    intro b L σ
    match b with
    | 0 =>
      refine Ole_eq (by rw [x_newAtom]) (by rw [x_newAtom]) ?_
      exact Ole_ite (Ole_ob (f_fail k _ _ _) (fun _ => Ole_rf _)) (ih _ _ _)
    | 1 =>
      refine Ole_eq (by rw [x_newAtom]) (by rw [x_newAtom]) ?_
      exact ih _ _ _
    | 2 =>
      refine Ole_eq (by rw [x_newAtom]) (by rw [x_newAtom]) ?_
      exact Ole_ob (f_make k _ _ _) (fun _ => Ole_ite (ih _ _ _) (Ole_rf _))
    | 3 =>
      refine Ole_eq (by rw [x_newAtom]) (by rw [x_newAtom]) ?_
      exact Ole_ite (ih _ _ _) (Ole_rf _)
    | 4 =>
      refine Ole_eq (by rw [x_newAtom]) (by rw [x_newAtom]) ?_
      exact Ole_rf _
    | b + 5 =>
      refine Ole_eq (by rw [x_newAtom]) (by rw [x_newAtom]) (Ole_no _)
theorem f_valueOf : ∀ (k b : Nat) (L : Nat → Int32) (σ : MS), Ole (x_valueOf k b L σ) (x_valueOf (k + 1) b L σ) := by
  intro k
  induction k with
  | zero => intro b L σ; exact Ole_no _
  | succ k ih =>
    intro b L σ
    match b with
    | 0 =>
      refine Ole_eq (by rw [x_valueOf]) (by rw [x_valueOf]) ?_
      exact Ole_ite (Ole_ite (Ole_ite (Ole_ite (Ole_rf _) (Ole_rf _)) (Ole_rf _)) (ih _ _ _)) (Ole_rf _)
    | 1 =>
      refine Ole_eq (by rw [x_valueOf]) (by rw [x_valueOf]) ?_
      exact Ole_ite (ih _ _ _) (Ole_ite (Ole_ite (ih _ _ _) (Ole_rf _)) (Ole_rf _))
    | 2 =>
      refine Ole_eq (by rw [x_valueOf]) (by rw [x_valueOf]) ?_
      exact Ole_ite (Ole_ite (Ole_ite (ih _ _ _) (Ole_rf _)) (Ole_rf _)) (Ole_rf _)
    | 3 =>
      refine Ole_eq (by rw [x_valueOf]) (by rw [x_valueOf]) ?_
      exact Ole_rf _
    | b + 4 =>
      refine Ole_eq (by rw [x_valueOf]) (by rw [x_valueOf]) (Ole_no _)
theorem f_pop : ∀ (k b : Nat) (L : Nat → Int32) (σ : MS), Ole (x_pop k b L σ) (x_pop (k + 1) b L σ) := by
  intro k
  induction k with
  | zero => intro b L σ; exact Ole_no _
  | succ k ih =>
    intro b L σ
    match b with
    | 0 =>
      refine Ole_eq (by rw [x_pop]) (by rw [x_pop]) ?_
      exact ih _ _ _
    | 1 =>
      refine Ole_eq (by rw [x_pop]) (by rw [x_pop]) ?_
      exact Ole_ite (Ole_rf _) (Ole_rf _)
    | b + 2 =>
      refine Ole_eq (by rw [x_pop]) (by rw [x_pop]) (Ole_no _)
theorem f_kind : ∀ (k b : Nat) (L : Nat → Int32) (σ : MS), Ole (x_kind k b L σ) (x_kind (k + 1) b L σ) := by
  intro k
  induction k with
  | zero => intro b L σ; exact Ole_no _
  | succ k ih =>
    intro b L σ
    match b with
    | 0 =>
      refine Ole_eq (by rw [x_kind]) (by rw [x_kind]) ?_
      exact Ole_ite (ih _ _ _) (ih _ _ _)
    | 1 =>
      refine Ole_eq (by rw [x_kind]) (by rw [x_kind]) ?_
      exact Ole_ite (ih _ _ _) (ih _ _ _)
    | 2 =>
      refine Ole_eq (by rw [x_kind]) (by rw [x_kind]) ?_
      exact Ole_ite (ih _ _ _) (Ole_rf _)
    | 3 =>
      refine Ole_eq (by rw [x_kind]) (by rw [x_kind]) ?_
      exact Ole_rf _
    | b + 4 =>
      refine Ole_eq (by rw [x_kind]) (by rw [x_kind]) (Ole_no _)
theorem f_wrongKind : ∀ (k b : Nat) (L : Nat → Int32) (σ : MS), Ole (x_wrongKind k b L σ) (x_wrongKind (k + 1) b L σ) := by
  intro k
  induction k with
  | zero => intro b L σ; exact Ole_no _
  | succ k ih =>
    intro b L σ
    match b with
    | 0 =>
      refine Ole_eq (by rw [x_wrongKind]) (by rw [x_wrongKind]) ?_
      exact Ole_ob (f_fail k _ _ _) (fun _ => Ole_rf _)
    | b + 1 =>
      refine Ole_eq (by rw [x_wrongKind]) (by rw [x_wrongKind]) (Ole_no _)
theorem f_signOf : ∀ (k b : Nat) (L : Nat → Int32) (σ : MS), Ole (x_signOf k b L σ) (x_signOf (k + 1) b L σ) := by
  intro k
  induction k with
  | zero => intro b L σ; exact Ole_no _
  | succ k ih =>
    intro b L σ
    match b with
    | 0 =>
      refine Ole_eq (by rw [x_signOf]) (by rw [x_signOf]) ?_
      exact Ole_ite (Ole_rf _) (Ole_rf _)
    | b + 1 =>
      refine Ole_eq (by rw [x_signOf]) (by rw [x_signOf]) (Ole_no _)
theorem f_loadA : ∀ (k b : Nat) (L : Nat → Int32) (σ : MS), Ole (x_loadA k b L σ) (x_loadA (k + 1) b L σ) := by
  intro k
  induction k with
  | zero => intro b L σ; exact Ole_no _
  | succ k ih =>
    intro b L σ
    match b with
    | 0 =>
      refine Ole_eq (by rw [x_loadA]) (by rw [x_loadA]) ?_
      exact Ole_ite (ih _ _ _) (Ole_rf _)
    | 1 =>
      refine Ole_eq (by rw [x_loadA]) (by rw [x_loadA]) ?_
      exact ih _ _ _
    | 2 =>
      refine Ole_eq (by rw [x_loadA]) (by rw [x_loadA]) ?_
      exact Ole_ite (ih _ _ _) (Ole_ite (Ole_ite (ih _ _ _) (Ole_rf _)) (Ole_rf _))
    | 3 =>
      refine Ole_eq (by rw [x_loadA]) (by rw [x_loadA]) ?_
      exact ih _ _ _
    | 4 =>
      refine Ole_eq (by rw [x_loadA]) (by rw [x_loadA]) ?_
      exact Ole_rf _
    | b + 5 =>
      refine Ole_eq (by rw [x_loadA]) (by rw [x_loadA]) (Ole_no _)
theorem f_other : ∀ (k b : Nat) (L : Nat → Int32) (σ : MS), Ole (x_other k b L σ) (x_other (k + 1) b L σ) := by
  intro k
  induction k with
  | zero => intro b L σ; exact Ole_no _
  | succ k ih =>
    intro b L σ
    match b with
    | 0 =>
      refine Ole_eq (by rw [x_other]) (by rw [x_other]) ?_
      exact Ole_ob (f_loadA k _ _ _) (fun _ => ih _ _ _)
    | 1 =>
      refine Ole_eq (by rw [x_other]) (by rw [x_other]) ?_
      exact ih _ _ _
    | 2 =>
      refine Ole_eq (by rw [x_other]) (by rw [x_other]) ?_
      exact Ole_ite (ih _ _ _) (Ole_ite (Ole_ite (ih _ _ _) (Ole_rf _)) (Ole_rf _))
    | 3 =>
      refine Ole_eq (by rw [x_other]) (by rw [x_other]) ?_
      exact ih _ _ _
    | 4 =>
      refine Ole_eq (by rw [x_other]) (by rw [x_other]) ?_
      exact Ole_ob (f_signOf k _ _ _) (fun _ => Ole_ob (f_wholeOf k _ _ _) (fun _ => Ole_rf _))
    | b + 5 =>
      refine Ole_eq (by rw [x_other]) (by rw [x_other]) (Ole_no _)
theorem f_isMap : ∀ (k b : Nat) (L : Nat → Int32) (σ : MS), Ole (x_isMap k b L σ) (x_isMap (k + 1) b L σ) := by
  intro k
  induction k with
  | zero => intro b L σ; exact Ole_no _
  | succ k ih =>
    intro b L σ
    match b with
    | 0 =>
      refine Ole_eq (by rw [x_isMap]) (by rw [x_isMap]) ?_
      exact Ole_ob (f_kind k _ _ _) (fun _ => Ole_ite (ih _ _ _) (ih _ _ _))
    | 1 =>
      refine Ole_eq (by rw [x_isMap]) (by rw [x_isMap]) ?_
      exact ih _ _ _
    | 2 =>
      refine Ole_eq (by rw [x_isMap]) (by rw [x_isMap]) ?_
      exact ih _ _ _
    | 3 =>
      refine Ole_eq (by rw [x_isMap]) (by rw [x_isMap]) ?_
      exact Ole_ite (ih _ _ _) (Ole_ite (Ole_ite (ih _ _ _) (Ole_ite (Ole_ob (f_kind k _ _ _) (fun _ => Ole_ite (Ole_ite (Ole_ite (ih _ _ _) (ih _ _ _)) (Ole_rf _)) (ih _ _ _))) (Ole_rf _))) (Ole_rf _))
    | 4 =>
      refine Ole_eq (by rw [x_isMap]) (by rw [x_isMap]) ?_
      exact ih _ _ _
    | 5 =>
      refine Ole_eq (by rw [x_isMap]) (by rw [x_isMap]) ?_
      exact ih _ _ _
    | 6 =>
      refine Ole_eq (by rw [x_isMap]) (by rw [x_isMap]) ?_
      exact Ole_ite (Ole_rf _) (Ole_rf _)
    | b + 7 =>
      refine Ole_eq (by rw [x_isMap]) (by rw [x_isMap]) (Ole_no _)
theorem f_rank : ∀ (k b : Nat) (L : Nat → Int32) (σ : MS), Ole (x_rank k b L σ) (x_rank (k + 1) b L σ) := by
  intro k
  induction k with
  | zero => intro b L σ; exact Ole_no _
  | succ k ih =>
    intro b L σ
    match b with
    | 0 =>
      refine Ole_eq (by rw [x_rank]) (by rw [x_rank]) ?_
      exact Ole_ite (ih _ _ _) (ih _ _ _)
    | 1 =>
      refine Ole_eq (by rw [x_rank]) (by rw [x_rank]) ?_
      exact Ole_ite (ih _ _ _) (Ole_rf _)
    | 2 =>
      refine Ole_eq (by rw [x_rank]) (by rw [x_rank]) ?_
      exact Ole_rf _
    | b + 3 =>
      refine Ole_eq (by rw [x_rank]) (by rw [x_rank]) (Ole_no _)
theorem f_compareWholes : ∀ (k b : Nat) (L : Nat → Int32) (σ : MS), Ole (x_compareWholes k b L σ) (x_compareWholes (k + 1) b L σ) := by
  intro k
  induction k with
  | zero => intro b L σ; exact Ole_no _
  | succ k ih =>
    intro b L σ
    match b with
    | 0 =>
      refine Ole_eq (by rw [x_compareWholes]) (by rw [x_compareWholes]) ?_
      exact Ole_ob (f_signOf k _ _ _) (fun _ => Ole_ob (f_signOf k _ _ _) (fun _ => Ole_ite (ih _ _ _) (Ole_ob (f_signOf k _ _ _) (fun _ => Ole_ob (f_signOf k _ _ _) (fun _ => Ole_rf _)))))
    | 1 =>
      refine Ole_eq (by rw [x_compareWholes]) (by rw [x_compareWholes]) ?_
      exact Ole_ite (Ole_ite (ih _ _ _) (Ole_rf _)) (Ole_rf _)
    | 2 =>
      refine Ole_eq (by rw [x_compareWholes]) (by rw [x_compareWholes]) ?_
      exact Ole_ite (ih _ _ _) (Ole_ite (Ole_ite (Ole_ite (ih _ _ _) (Ole_rf _)) (Ole_rf _)) (ih _ _ _))
    | 3 =>
      refine Ole_eq (by rw [x_compareWholes]) (by rw [x_compareWholes]) ?_
      exact Ole_ob (f_signOf k _ _ _) (fun _ => Ole_ite (ih _ _ _) (ih _ _ _))
    | 4 =>
      refine Ole_eq (by rw [x_compareWholes]) (by rw [x_compareWholes]) ?_
      exact ih _ _ _
    | 5 =>
      refine Ole_eq (by rw [x_compareWholes]) (by rw [x_compareWholes]) ?_
      exact Ole_rf _
    | b + 6 =>
      refine Ole_eq (by rw [x_compareWholes]) (by rw [x_compareWholes]) (Ole_no _)
theorem f_s_compare {X Y : Nat → Nat → Nat → (Nat → Int32) → MS → Option (Int32 × MS)} (hX : ∀ e m b L σ, Ole (X e m b L σ) (Y e m b L σ)) (k d b : Nat) (L : Nat → Int32) (σ : MS) : Ole (s_compare X k d b L σ) (s_compare Y (k + 1) d b L σ) := by
  match b with
  | 0 => exact Ole_ite (Ole_rf _) (hX _ _ _ _ _)
  | 1 => exact Ole_ob (f_rank k _ _ _) (fun _ => Ole_ob (f_rank k _ _ _) (fun _ => Ole_ite (hX _ _ _ _ _) (Ole_rf _)))
  | 2 => exact Ole_ite (Ole_ite (Ole_ob (f_compareWholes k _ _ _) (fun _ => Ole_rf _)) (hX _ _ _ _ _)) (Ole_rf _)
  | 3 => exact Ole_ite (Ole_ite (hX _ _ _ _ _) (Ole_rf _)) (Ole_rf _)
  | 4 => exact Ole_ite (hX _ _ _ _ _) (Ole_ite (hX _ _ _ _ _) (Ole_ite (hX _ _ _ _ _) (Ole_ite (hX _ _ _ _ _) (hX _ _ _ _ _))))
  | 5 => exact Ole_ite (Ole_ite (Ole_od (fun _ => Ole_ob (hX _ _ _ _ _) (fun _ => hX _ _ _ _ _))) (Ole_rf _)) (Ole_rf _)
  | 6 => exact Ole_ite (Ole_ite (hX _ _ _ _ _) (Ole_rf _)) (Ole_rf _)
  | 7 => exact Ole_ite (hX _ _ _ _ _) (Ole_rf _)
  | 8 => exact hX _ _ _ _ _
  | 9 => exact Ole_rf _
  | b + 10 => exact Ole_no _
theorem f_GC : ∀ (k d m b : Nat) (L : Nat → Int32) (σ : MS), Ole (x_GC k d m b L σ) (x_GC (k + 1) d m b L σ) := by
  intro k
  induction k with
  | zero => intro d m b L σ; exact Ole_no _
  | succ k ih =>
    intro d m b L σ
    match m with
    | 0 => exact f_s_compare ih k d b L σ
    | m + 1 => exact Ole_no _
theorem f_compare (k b : Nat) (L : Nat → Int32) (σ : MS) : Ole (x_compare k b L σ) (x_compare (k + 1) b L σ) := f_GC k 40 0 b L σ
theorem f_merge : ∀ (k b : Nat) (L : Nat → Int32) (σ : MS), Ole (x_merge k b L σ) (x_merge (k + 1) b L σ) := by
  intro k
  induction k with
  | zero => intro b L σ; exact Ole_no _
  | succ k ih =>
    intro b L σ
    match b with
    | 0 =>
      refine Ole_eq (by rw [x_merge]) (by rw [x_merge]) ?_
      exact ih _ _ _
    | 1 =>
      refine Ole_eq (by rw [x_merge]) (by rw [x_merge]) ?_
      exact Ole_ite (ih _ _ _) (Ole_ite (ih _ _ _) (Ole_ite (ih _ _ _) (Ole_ite (Ole_ite (Ole_ob (f_compare k _ _ _) (fun _ => Ole_ite (ih _ _ _) (ih _ _ _))) (Ole_rf _)) (Ole_rf _))))
    | 2 =>
      refine Ole_eq (by rw [x_merge]) (by rw [x_merge]) ?_
      exact ih _ _ _
    | 3 =>
      refine Ole_eq (by rw [x_merge]) (by rw [x_merge]) ?_
      exact ih _ _ _
    | 4 =>
      refine Ole_eq (by rw [x_merge]) (by rw [x_merge]) ?_
      exact Ole_ite (ih _ _ _) (Ole_ite (ih _ _ _) (Ole_rf _))
    | 5 =>
      refine Ole_eq (by rw [x_merge]) (by rw [x_merge]) ?_
      exact Ole_ite (ih _ _ _) (Ole_rf _)
    | 6 =>
      refine Ole_eq (by rw [x_merge]) (by rw [x_merge]) ?_
      exact Ole_ite (ih _ _ _) (Ole_rf _)
    | 7 =>
      refine Ole_eq (by rw [x_merge]) (by rw [x_merge]) ?_
      exact Ole_ite (ih _ _ _) (ih _ _ _)
    | 8 =>
      refine Ole_eq (by rw [x_merge]) (by rw [x_merge]) ?_
      exact ih _ _ _
    | 9 =>
      refine Ole_eq (by rw [x_merge]) (by rw [x_merge]) ?_
      exact Ole_ite (ih _ _ _) (ih _ _ _)
    | 10 =>
      refine Ole_eq (by rw [x_merge]) (by rw [x_merge]) ?_
      exact ih _ _ _
    | 11 =>
      refine Ole_eq (by rw [x_merge]) (by rw [x_merge]) ?_
      exact ih _ _ _
    | 12 =>
      refine Ole_eq (by rw [x_merge]) (by rw [x_merge]) ?_
      exact Ole_rf _
    | b + 13 =>
      refine Ole_eq (by rw [x_merge]) (by rw [x_merge]) (Ole_no _)
theorem f_distinct : ∀ (k b : Nat) (L : Nat → Int32) (σ : MS), Ole (x_distinct k b L σ) (x_distinct (k + 1) b L σ) := by
  intro k
  induction k with
  | zero => intro b L σ; exact Ole_no _
  | succ k ih =>
    intro b L σ
    match b with
    | 0 =>
      refine Ole_eq (by rw [x_distinct]) (by rw [x_distinct]) ?_
      exact ih _ _ _
    | 1 =>
      refine Ole_eq (by rw [x_distinct]) (by rw [x_distinct]) ?_
      exact Ole_ite (ih _ _ _) (ih _ _ _)
    | 2 =>
      refine Ole_eq (by rw [x_distinct]) (by rw [x_distinct]) ?_
      exact Ole_ite (ih _ _ _) (Ole_ite (ih _ _ _) (ih _ _ _))
    | 3 =>
      refine Ole_eq (by rw [x_distinct]) (by rw [x_distinct]) ?_
      exact ih _ _ _
    | 4 =>
      refine Ole_eq (by rw [x_distinct]) (by rw [x_distinct]) ?_
      exact Ole_ite (ih _ _ _) (ih _ _ _)
    | 5 =>
      refine Ole_eq (by rw [x_distinct]) (by rw [x_distinct]) ?_
      exact ih _ _ _
    | 6 =>
      refine Ole_eq (by rw [x_distinct]) (by rw [x_distinct]) ?_
      exact Ole_ob (f_merge k _ _ _) (fun _ => ih _ _ _)
    | 7 =>
      refine Ole_eq (by rw [x_distinct]) (by rw [x_distinct]) ?_
      exact ih _ _ _
    | 8 =>
      refine Ole_eq (by rw [x_distinct]) (by rw [x_distinct]) ?_
      exact Ole_ite (ih _ _ _) (Ole_ite (Ole_ite (ih _ _ _) (Ole_rf _)) (Ole_rf _))
    | 9 =>
      refine Ole_eq (by rw [x_distinct]) (by rw [x_distinct]) ?_
      exact ih _ _ _
    | 10 =>
      refine Ole_eq (by rw [x_distinct]) (by rw [x_distinct]) ?_
      exact ih _ _ _
    | 11 =>
      refine Ole_eq (by rw [x_distinct]) (by rw [x_distinct]) ?_
      exact ih _ _ _
    | 12 =>
      refine Ole_eq (by rw [x_distinct]) (by rw [x_distinct]) ?_
      exact Ole_ite (ih _ _ _) (Ole_ite (ih _ _ _) (Ole_ite (Ole_ite (Ole_ob (f_compare k _ _ _) (fun _ => Ole_ite (ih _ _ _) (ih _ _ _))) (Ole_rf _)) (Ole_rf _)))
    | 13 =>
      refine Ole_eq (by rw [x_distinct]) (by rw [x_distinct]) ?_
      exact Ole_ite (Ole_ite (ih _ _ _) (Ole_rf _)) (Ole_rf _)
    | 14 =>
      refine Ole_eq (by rw [x_distinct]) (by rw [x_distinct]) ?_
      exact ih _ _ _
    | 15 =>
      refine Ole_eq (by rw [x_distinct]) (by rw [x_distinct]) ?_
      exact ih _ _ _
    | 16 =>
      refine Ole_eq (by rw [x_distinct]) (by rw [x_distinct]) ?_
      exact Ole_rf _
    | b + 17 =>
      refine Ole_eq (by rw [x_distinct]) (by rw [x_distinct]) (Ole_no _)
theorem f_height : ∀ (k b : Nat) (L : Nat → Int32) (σ : MS), Ole (x_height k b L σ) (x_height (k + 1) b L σ) := by
  intro k
  induction k with
  | zero => intro b L σ; exact Ole_no _
  | succ k ih =>
    intro b L σ
    match b with
    | 0 =>
      refine Ole_eq (by rw [x_height]) (by rw [x_height]) ?_
      exact Ole_ite (ih _ _ _) (ih _ _ _)
    | 1 =>
      refine Ole_eq (by rw [x_height]) (by rw [x_height]) ?_
      exact Ole_ite (ih _ _ _) (Ole_rf _)
    | 2 =>
      refine Ole_eq (by rw [x_height]) (by rw [x_height]) ?_
      exact Ole_rf _
    | b + 3 =>
      refine Ole_eq (by rw [x_height]) (by rw [x_height]) (Ole_no _)
theorem f_checked : ∀ (k b : Nat) (L : Nat → Int32) (σ : MS), Ole (x_checked k b L σ) (x_checked (k + 1) b L σ) := by
  intro k
  induction k with
  | zero => intro b L σ; exact Ole_no _
  | succ k ih =>
    intro b L σ
    match b with
    | 0 =>
      refine Ole_eq (by rw [x_checked]) (by rw [x_checked]) ?_
      exact Ole_ite (Ole_ite (Ole_ite (ih _ _ _) (Ole_ite (Ole_ite (ih _ _ _) (ih _ _ _)) (Ole_rf _))) (Ole_rf _)) (ih _ _ _)
    | 1 =>
      refine Ole_eq (by rw [x_checked]) (by rw [x_checked]) ?_
      exact Ole_ob (f_fail k _ _ _) (fun _ => ih _ _ _)
    | 2 =>
      refine Ole_eq (by rw [x_checked]) (by rw [x_checked]) ?_
      exact Ole_ite (ih _ _ _) (ih _ _ _)
    | 3 =>
      refine Ole_eq (by rw [x_checked]) (by rw [x_checked]) ?_
      exact ih _ _ _
    | 4 =>
      refine Ole_eq (by rw [x_checked]) (by rw [x_checked]) ?_
      exact Ole_rf _
    | b + 5 =>
      refine Ole_eq (by rw [x_checked]) (by rw [x_checked]) (Ole_no _)
theorem f_measured : ∀ (k b : Nat) (L : Nat → Int32) (σ : MS), Ole (x_measured k b L σ) (x_measured (k + 1) b L σ) := by
  intro k
  induction k with
  | zero => intro b L σ; exact Ole_no _
  | succ k ih =>
    intro b L σ
    match b with
    | 0 =>
      refine Ole_eq (by rw [x_measured]) (by rw [x_measured]) ?_
      exact Ole_ite (ih _ _ _) (Ole_rf _)
    | 1 =>
      refine Ole_eq (by rw [x_measured]) (by rw [x_measured]) ?_
      exact Ole_ite (ih _ _ _) (Ole_ite (Ole_ob (f_size k _ _ _) (fun _ => Ole_ob (f_height k _ _ _) (fun _ => Ole_ite (ih _ _ _) (Ole_ob (f_height k _ _ _) (fun _ => ih _ _ _))))) (Ole_rf _))
    | 2 =>
      refine Ole_eq (by rw [x_measured]) (by rw [x_measured]) ?_
      exact ih _ _ _
    | 3 =>
      refine Ole_eq (by rw [x_measured]) (by rw [x_measured]) ?_
      exact ih _ _ _
    | 4 =>
      refine Ole_eq (by rw [x_measured]) (by rw [x_measured]) ?_
      exact Ole_ite (ih _ _ _) (Ole_rf _)
    | 5 =>
      refine Ole_eq (by rw [x_measured]) (by rw [x_measured]) ?_
      exact Ole_ite (ih _ _ _) (Ole_rf _)
    | 6 =>
      refine Ole_eq (by rw [x_measured]) (by rw [x_measured]) ?_
      exact Ole_ob (f_checked k _ _ _) (fun _ => Ole_rf _)
    | b + 7 =>
      refine Ole_eq (by rw [x_measured]) (by rw [x_measured]) (Ole_no _)
theorem f_setOf : ∀ (k b : Nat) (L : Nat → Int32) (σ : MS), Ole (x_setOf k b L σ) (x_setOf (k + 1) b L σ) := by
  intro k
  induction k with
  | zero => intro b L σ; exact Ole_no _
  | succ k ih =>
    intro b L σ
    match b with
    | 0 =>
      refine Ole_eq (by rw [x_setOf]) (by rw [x_setOf]) ?_
      exact Ole_ob (f_distinct k _ _ _) (fun _ => ih _ _ _)
    | 1 =>
      refine Ole_eq (by rw [x_setOf]) (by rw [x_setOf]) ?_
      exact Ole_ob (f_make k _ _ _) (fun _ => Ole_ite (ih _ _ _) (Ole_rf _))
    | 2 =>
      refine Ole_eq (by rw [x_setOf]) (by rw [x_setOf]) ?_
      exact ih _ _ _
    | 3 =>
      refine Ole_eq (by rw [x_setOf]) (by rw [x_setOf]) ?_
      exact Ole_ite (ih _ _ _) (Ole_ite (Ole_ite (ih _ _ _) (Ole_rf _)) (Ole_rf _))
    | 4 =>
      refine Ole_eq (by rw [x_setOf]) (by rw [x_setOf]) ?_
      exact ih _ _ _
    | 5 =>
      refine Ole_eq (by rw [x_setOf]) (by rw [x_setOf]) ?_
      exact Ole_ob (f_measured k _ _ _) (fun _ => Ole_rf _)
    | b + 6 =>
      refine Ole_eq (by rw [x_setOf]) (by rw [x_setOf]) (Ole_no _)
theorem f_side : ∀ (k b : Nat) (L : Nat → Int32) (σ : MS), Ole (x_side k b L σ) (x_side (k + 1) b L σ) := by
  intro k
  induction k with
  | zero => intro b L σ; exact Ole_no _
  | succ k ih =>
    intro b L σ
    match b with
    | 0 =>
      refine Ole_eq (by rw [x_side]) (by rw [x_side]) ?_
      exact Ole_ob (f_isMap k _ _ _) (fun _ => Ole_ite (Ole_ob (f_wrongKind k _ _ _) (fun _ => Ole_rf _)) (ih _ _ _))
    | 1 =>
      refine Ole_eq (by rw [x_side]) (by rw [x_side]) ?_
      exact ih _ _ _
    | 2 =>
      refine Ole_eq (by rw [x_side]) (by rw [x_side]) ?_
      exact Ole_ite (Ole_ite (ih _ _ _) (Ole_ite (Ole_ite (Ole_ob (f_push k _ _ _) (fun _ => ih _ _ _)) (Ole_rf _)) (Ole_rf _))) (Ole_rf _)
    | 3 =>
      refine Ole_eq (by rw [x_side]) (by rw [x_side]) ?_
      exact ih _ _ _
    | 4 =>
      refine Ole_eq (by rw [x_side]) (by rw [x_side]) ?_
      exact Ole_ite (ih _ _ _) (Ole_ite (Ole_ite (Ole_ite (ih _ _ _) (ih _ _ _)) (Ole_rf _)) (ih _ _ _))
    | 5 =>
      refine Ole_eq (by rw [x_side]) (by rw [x_side]) ?_
      exact ih _ _ _
    | 6 =>
      refine Ole_eq (by rw [x_side]) (by rw [x_side]) ?_
      exact ih _ _ _
    | 7 =>
      refine Ole_eq (by rw [x_side]) (by rw [x_side]) ?_
      exact ih _ _ _
    | 8 =>
      refine Ole_eq (by rw [x_side]) (by rw [x_side]) ?_
      exact Ole_ite (ih _ _ _) (ih _ _ _)
    | 9 =>
      refine Ole_eq (by rw [x_side]) (by rw [x_side]) ?_
      exact Ole_ob (f_fail k _ _ _) (fun _ => Ole_rf _)
    | 10 =>
      refine Ole_eq (by rw [x_side]) (by rw [x_side]) ?_
      exact Ole_ob (f_setOf k _ _ _) (fun _ => Ole_rf _)
    | b + 11 =>
      refine Ole_eq (by rw [x_side]) (by rw [x_side]) (Ole_no _)
theorem f_powerSet : ∀ (k b : Nat) (L : Nat → Int32) (σ : MS), Ole (x_powerSet k b L σ) (x_powerSet (k + 1) b L σ) := by
  intro k
  induction k with
  | zero => intro b L σ; exact Ole_no _
  | succ k ih =>
    intro b L σ
    match b with
    | 0 =>
      refine Ole_eq (by rw [x_powerSet]) (by rw [x_powerSet]) ?_
      exact Ole_ob (f_kind k _ _ _) (fun _ => Ole_ite (ih _ _ _) (Ole_ob (f_wrongKind k _ _ _) (fun _ => Ole_rf _)))
    | 1 =>
      refine Ole_eq (by rw [x_powerSet]) (by rw [x_powerSet]) ?_
      exact Ole_ite (Ole_ite (ih _ _ _) (Ole_ob (f_fail k _ _ _) (fun _ => Ole_rf _))) (Ole_rf _)
    | 2 =>
      refine Ole_eq (by rw [x_powerSet]) (by rw [x_powerSet]) ?_
      exact ih _ _ _
    | 3 =>
      refine Ole_eq (by rw [x_powerSet]) (by rw [x_powerSet]) ?_
      exact Ole_ite (ih _ _ _) (Ole_ite (ih _ _ _) (ih _ _ _))
    | 4 =>
      refine Ole_eq (by rw [x_powerSet]) (by rw [x_powerSet]) ?_
      exact Ole_ite (ih _ _ _) (Ole_ite (Ole_ite (Ole_ob (f_push k _ _ _) (fun _ => ih _ _ _)) (Ole_rf _)) (ih _ _ _))
    | 5 =>
      refine Ole_eq (by rw [x_powerSet]) (by rw [x_powerSet]) ?_
      exact ih _ _ _
    | 6 =>
      refine Ole_eq (by rw [x_powerSet]) (by rw [x_powerSet]) ?_
      exact Ole_ob (f_setOf k _ _ _) (fun _ => Ole_ob (f_push k _ _ _) (fun _ => ih _ _ _))
    | 7 =>
      refine Ole_eq (by rw [x_powerSet]) (by rw [x_powerSet]) ?_
      exact Ole_ite (Ole_ob (f_setOf k _ _ _) (fun _ => ih _ _ _)) (ih _ _ _)
    | 8 =>
      refine Ole_eq (by rw [x_powerSet]) (by rw [x_powerSet]) ?_
      exact ih _ _ _
    | 9 =>
      refine Ole_eq (by rw [x_powerSet]) (by rw [x_powerSet]) ?_
      exact Ole_rf _
    | b + 10 =>
      refine Ole_eq (by rw [x_powerSet]) (by rw [x_powerSet]) (Ole_no _)
theorem f_put : ∀ (k b : Nat) (L : Nat → Int32) (σ : MS), Ole (x_put k b L σ) (x_put (k + 1) b L σ) := by
  intro k
  induction k with
  | zero => intro b L σ; exact Ole_no _
  | succ k ih =>
    intro b L σ
    match b with
    | 0 =>
      refine Ole_eq (by rw [x_put]) (by rw [x_put]) ?_
      exact Ole_ite (ih _ _ _) (Ole_rf _)
    | 1 =>
      refine Ole_eq (by rw [x_put]) (by rw [x_put]) ?_
      exact Ole_rf _
    | b + 2 =>
      refine Ole_eq (by rw [x_put]) (by rw [x_put]) (Ole_no _)
theorem f_putWord : ∀ (k b : Nat) (L : Nat → Int32) (σ : MS), Ole (x_putWord k b L σ) (x_putWord (k + 1) b L σ) := by
  intro k
  induction k with
  | zero => intro b L σ; exact Ole_no _
  | succ k ih =>
    intro b L σ
    match b with
    | 0 =>
      refine Ole_eq (by rw [x_putWord]) (by rw [x_putWord]) ?_
      exact ih _ _ _
    | 1 =>
      refine Ole_eq (by rw [x_putWord]) (by rw [x_putWord]) ?_
      exact Ole_ite (ih _ _ _) (Ole_ite (Ole_ite (ih _ _ _) (ih _ _ _)) (Ole_rf _))
    | 2 =>
      refine Ole_eq (by rw [x_putWord]) (by rw [x_putWord]) ?_
      exact ih _ _ _
    | 3 =>
      refine Ole_eq (by rw [x_putWord]) (by rw [x_putWord]) ?_
      exact ih _ _ _
    | 4 =>
      refine Ole_eq (by rw [x_putWord]) (by rw [x_putWord]) ?_
      exact Ole_ite (Ole_ite (ih _ _ _) (Ole_ite (Ole_ob (f_put k _ _ _) (fun _ => ih _ _ _)) (Ole_rf _))) (Ole_rf _)
    | 5 =>
      refine Ole_eq (by rw [x_putWord]) (by rw [x_putWord]) ?_
      exact Ole_rf _
    | b + 6 =>
      refine Ole_eq (by rw [x_putWord]) (by rw [x_putWord]) (Ole_no _)
theorem f_stringOf__48 : ∀ (k b : Nat) (L : Nat → Int32) (σ : MS), Ole (x_stringOf__48 k b L σ) (x_stringOf__48 (k + 1) b L σ) := by
  intro k
  induction k with
  | zero => intro b L σ; exact Ole_no _
  | succ k ih =>
    intro b L σ
    match b with
    | 0 =>
      refine Ole_eq (by rw [x_stringOf__48]) (by rw [x_stringOf__48]) ?_
      exact Ole_ite (Ole_rf _) (Ole_ite (ih _ _ _) (Ole_ob (f_fail k _ _ _) (fun _ => Ole_rf _)))
    | 1 =>
      refine Ole_eq (by rw [x_stringOf__48]) (by rw [x_stringOf__48]) ?_
      exact Ole_ob (f_make k _ _ _) (fun _ => ih _ _ _)
    | 2 =>
      refine Ole_eq (by rw [x_stringOf__48]) (by rw [x_stringOf__48]) ?_
      exact Ole_ite (ih _ _ _) (Ole_ite (Ole_ite (Ole_ite (ih _ _ _) (Ole_rf _)) (Ole_rf _)) (ih _ _ _))
    | 3 =>
      refine Ole_eq (by rw [x_stringOf__48]) (by rw [x_stringOf__48]) ?_
      exact ih _ _ _
    | 4 =>
      refine Ole_eq (by rw [x_stringOf__48]) (by rw [x_stringOf__48]) ?_
      exact Ole_ite (Ole_rf _) (Ole_ite (ih _ _ _) (Ole_rf _))
    | 5 =>
      refine Ole_eq (by rw [x_stringOf__48]) (by rw [x_stringOf__48]) ?_
      exact Ole_rf _
    | b + 6 =>
      refine Ole_eq (by rw [x_stringOf__48]) (by rw [x_stringOf__48]) (Ole_no _)
theorem f_typeOf : ∀ (k b : Nat) (L : Nat → Int32) (σ : MS), Ole (x_typeOf k b L σ) (x_typeOf (k + 1) b L σ) := by
  intro k
  induction k with
  | zero => intro b L σ; exact Ole_no _
  | succ k ih =>
    intro b L σ
    match b with
    | 0 =>
      refine Ole_eq (by rw [x_typeOf]) (by rw [x_typeOf]) ?_
      exact ih _ _ _
    | 1 =>
      refine Ole_eq (by rw [x_typeOf]) (by rw [x_typeOf]) ?_
      exact Ole_ob (f_kind k _ _ _) (fun _ => Ole_ob (f_putWord k _ _ _) (fun _ => Ole_ob (f_stringOf__48 k _ _ _) (fun _ => Ole_rf _)))
    | b + 2 =>
      refine Ole_eq (by rw [x_typeOf]) (by rw [x_typeOf]) (Ole_no _)
theorem f_putTruth : ∀ (k b : Nat) (L : Nat → Int32) (σ : MS), Ole (x_putTruth k b L σ) (x_putTruth (k + 1) b L σ) := by
  intro k
  induction k with
  | zero => intro b L σ; exact Ole_no _
  | succ k ih =>
    intro b L σ
    match b with
    | 0 =>
      refine Ole_eq (by rw [x_putTruth]) (by rw [x_putTruth]) ?_
      exact Ole_ite (ih _ _ _) (ih _ _ _)
    | 1 =>
      refine Ole_eq (by rw [x_putTruth]) (by rw [x_putTruth]) ?_
      exact ih _ _ _
    | 2 =>
      refine Ole_eq (by rw [x_putTruth]) (by rw [x_putTruth]) ?_
      exact Ole_ob (f_put k _ _ _) (fun _ => Ole_ite (ih _ _ _) (ih _ _ _))
    | 3 =>
      refine Ole_eq (by rw [x_putTruth]) (by rw [x_putTruth]) ?_
      exact ih _ _ _
    | 4 =>
      refine Ole_eq (by rw [x_putTruth]) (by rw [x_putTruth]) ?_
      exact Ole_ob (f_put k _ _ _) (fun _ => Ole_ite (ih _ _ _) (ih _ _ _))
    | 5 =>
      refine Ole_eq (by rw [x_putTruth]) (by rw [x_putTruth]) ?_
      exact ih _ _ _
    | 6 =>
      refine Ole_eq (by rw [x_putTruth]) (by rw [x_putTruth]) ?_
      exact Ole_ob (f_put k _ _ _) (fun _ => Ole_ite (ih _ _ _) (ih _ _ _))
    | 7 =>
      refine Ole_eq (by rw [x_putTruth]) (by rw [x_putTruth]) ?_
      exact ih _ _ _
    | 8 =>
      refine Ole_eq (by rw [x_putTruth]) (by rw [x_putTruth]) ?_
      exact Ole_ob (f_put k _ _ _) (fun _ => Ole_ite (Ole_ob (f_put k _ _ _) (fun _ => ih _ _ _)) (ih _ _ _))
    | 9 =>
      refine Ole_eq (by rw [x_putTruth]) (by rw [x_putTruth]) ?_
      exact Ole_rf _
    | b + 10 =>
      refine Ole_eq (by rw [x_putTruth]) (by rw [x_putTruth]) (Ole_no _)
theorem f_putWhole : ∀ (k b : Nat) (L : Nat → Int32) (σ : MS), Ole (x_putWhole k b L σ) (x_putWhole (k + 1) b L σ) := by
  intro k
  induction k with
  | zero => intro b L σ; exact Ole_no _
  | succ k ih =>
    intro b L σ
    match b with
    | 0 =>
      refine Ole_eq (by rw [x_putWhole]) (by rw [x_putWhole]) ?_
      exact Ole_ob (f_loadA k _ _ _) (fun _ => Ole_ite (Ole_ite (ih _ _ _) (Ole_rf _)) (ih _ _ _))
    | 1 =>
      refine Ole_eq (by rw [x_putWhole]) (by rw [x_putWhole]) ?_
      exact ih _ _ _
    | 2 =>
      refine Ole_eq (by rw [x_putWhole]) (by rw [x_putWhole]) ?_
      exact Ole_ite (ih _ _ _) (ih _ _ _)
    | 3 =>
      refine Ole_eq (by rw [x_putWhole]) (by rw [x_putWhole]) ?_
      exact Ole_ite (ih _ _ _) (Ole_ite (Ole_ite (Ole_rf _) (Ole_ite (ih _ _ _) (Ole_rf _))) (Ole_rf _))
    | 4 =>
      refine Ole_eq (by rw [x_putWhole]) (by rw [x_putWhole]) ?_
      exact Ole_ite (Ole_rf _) (ih _ _ _)
    | 5 =>
      refine Ole_eq (by rw [x_putWhole]) (by rw [x_putWhole]) ?_
      exact Ole_ite (ih _ _ _) (Ole_rf _)
    | 6 =>
      refine Ole_eq (by rw [x_putWhole]) (by rw [x_putWhole]) ?_
      exact ih _ _ _
    | 7 =>
      refine Ole_eq (by rw [x_putWhole]) (by rw [x_putWhole]) ?_
      exact Ole_ite (ih _ _ _) (Ole_ite (Ole_ite (ih _ _ _) (ih _ _ _)) (Ole_rf _))
    | 8 =>
      refine Ole_eq (by rw [x_putWhole]) (by rw [x_putWhole]) ?_
      exact ih _ _ _
    | 9 =>
      refine Ole_eq (by rw [x_putWhole]) (by rw [x_putWhole]) ?_
      exact Ole_ob (f_signOf k _ _ _) (fun _ => Ole_ite (ih _ _ _) (Ole_ob (f_put k _ _ _) (fun _ => ih _ _ _)))
    | 10 =>
      refine Ole_eq (by rw [x_putWhole]) (by rw [x_putWhole]) ?_
      exact ih _ _ _
    | 11 =>
      refine Ole_eq (by rw [x_putWhole]) (by rw [x_putWhole]) ?_
      exact Ole_ite (ih _ _ _) (Ole_ite (Ole_ob (f_put k _ _ _) (fun _ => ih _ _ _)) (Ole_rf _))
    | 12 =>
      refine Ole_eq (by rw [x_putWhole]) (by rw [x_putWhole]) ?_
      exact Ole_rf _
    | b + 13 =>
      refine Ole_eq (by rw [x_putWhole]) (by rw [x_putWhole]) (Ole_no _)
theorem f_s_putNumber {X Y : Nat → Nat → Nat → (Nat → Int32) → MS → Option (Int32 × MS)} (hX : ∀ e m b L σ, Ole (X e m b L σ) (Y e m b L σ)) (k d b : Nat) (L : Nat → Int32) (σ : MS) : Ole (s_putNumber X k d b L σ) (s_putNumber Y (k + 1) d b L σ) := by
  match b with
  | 0 => exact Ole_ite (hX _ _ _ _ _) (Ole_od (fun _ => Ole_ob (hX _ _ _ _ _) (fun _ => hX _ _ _ _ _)))
  | 1 => exact Ole_ob (f_put k _ _ _) (fun _ => Ole_rf _)
  | b + 2 => exact Ole_no _
theorem f_GN : ∀ (k d m b : Nat) (L : Nat → Int32) (σ : MS), Ole (x_GN k d m b L σ) (x_GN (k + 1) d m b L σ) := by
  intro k
  induction k with
  | zero => intro d m b L σ; exact Ole_no _
  | succ k ih =>
    intro d m b L σ
    match m with
    | 0 => exact f_s_putNumber ih k d b L σ
    | m + 1 => exact Ole_no _
theorem f_putNumber (k b : Nat) (L : Nat → Int32) (σ : MS) : Ole (x_putNumber k b L σ) (x_putNumber (k + 1) b L σ) := f_GN k 12 0 b L σ
theorem f_s_print {X Y : Nat → Nat → Nat → (Nat → Int32) → MS → Option (Int32 × MS)} (hX : ∀ e m b L σ, Ole (X e m b L σ) (Y e m b L σ)) (k d b : Nat) (L : Nat → Int32) (σ : MS) : Ole (s_print X k d b L σ) (s_print Y (k + 1) d b L σ) := by
  match b with
  | 0 => exact Ole_ob (f_kind k _ _ _) (fun _ => Ole_ite (Ole_ob (f_put k _ _ _) (fun _ => Ole_ob (f_put k _ _ _) (fun _ => hX _ _ _ _ _))) (hX _ _ _ _ _))
  | 1 => exact Ole_ite (Ole_ite (hX _ _ _ _ _) (hX _ _ _ _ _)) (hX _ _ _ _ _)
  | 2 => exact hX _ _ _ _ _
  | 3 => exact Ole_ob (f_putTruth k _ _ _) (fun _ => hX _ _ _ _ _)
  | 4 => exact Ole_ite (Ole_ob (f_putWhole k _ _ _) (fun _ => hX _ _ _ _ _)) (hX _ _ _ _ _)
  | 5 => exact Ole_ite (Ole_ob (f_put k _ _ _) (fun _ => Ole_ite (Ole_ob (f_putNumber k _ _ _) (fun _ => hX _ _ _ _ _)) (Ole_rf _))) (hX _ _ _ _ _)
  | 6 => exact Ole_ite (Ole_ite (Ole_ob (f_put k _ _ _) (fun _ => hX _ _ _ _ _)) (hX _ _ _ _ _)) (hX _ _ _ _ _)
  | 7 => exact hX _ _ _ _ _
  | 8 => exact Ole_ite (Ole_ite (hX _ _ _ _ _) (Ole_ite (Ole_ob (f_put k _ _ _) (fun _ => hX _ _ _ _ _)) (Ole_rf _))) (Ole_rf _)
  | 9 => exact Ole_ite (Ole_ob (f_put k _ _ _) (fun _ => hX _ _ _ _ _)) (hX _ _ _ _ _)
  | 10 => exact Ole_ite (hX _ _ _ _ _) (hX _ _ _ _ _)
  | 11 => exact hX _ _ _ _ _
  | 12 => exact Ole_ob (f_put k _ _ _) (fun _ => hX _ _ _ _ _)
  | 13 => exact Ole_ite (Ole_ite (hX _ _ _ _ _) (Ole_ite (hX _ _ _ _ _) (Ole_ob (f_put k _ _ _) (fun _ => Ole_ob (f_put k _ _ _) (fun _ => hX _ _ _ _ _))))) (Ole_rf _)
  | 14 => exact Ole_ite (Ole_od (fun _ => Ole_ob (hX _ _ _ _ _) (fun _ => hX _ _ _ _ _))) (Ole_rf _)
  | 15 => exact Ole_ite (hX _ _ _ _ _) (hX _ _ _ _ _)
  | 16 => exact hX _ _ _ _ _
  | 17 => exact Ole_ob (f_put k _ _ _) (fun _ => hX _ _ _ _ _)
  | 18 => exact Ole_rf _
  | b + 19 => exact Ole_no _
theorem f_GP : ∀ (k d m b : Nat) (L : Nat → Int32) (σ : MS), Ole (x_GP k d m b L σ) (x_GP (k + 1) d m b L σ) := by
  intro k
  induction k with
  | zero => intro d m b L σ; exact Ole_no _
  | succ k ih =>
    intro d m b L σ
    match m with
    | 0 => exact f_s_print ih k d b L σ
    | m + 1 => exact Ole_no _
theorem f_print (k b : Nat) (L : Nat → Int32) (σ : MS) : Ole (x_print k b L σ) (x_print (k + 1) b L σ) := f_GP k 40 0 b L σ
theorem f_intOf : ∀ (k b : Nat) (L : Nat → Int32) (J : Nat → Int64) (σ : MS), Ole (x_intOf k b L J σ) (x_intOf (k + 1) b L J σ) := by
  intro k
  induction k with
  | zero => intro b L J σ; exact Ole_no _
  | succ k ih =>
    intro b L J σ
    match b with
    | 0 =>
      refine Ole_eq (by rw [x_intOf]) (by rw [x_intOf]) ?_
      exact Ole_ite (ih _ _ _ _) (Ole_rf _)
    | 1 =>
      refine Ole_eq (by rw [x_intOf]) (by rw [x_intOf]) ?_
      exact Ole_ite (ih _ _ _ _) (Ole_ite (ih _ _ _ _) (ih _ _ _ _))
    | 2 =>
      refine Ole_eq (by rw [x_intOf]) (by rw [x_intOf]) ?_
      exact Ole_ite (ih _ _ _ _) (Ole_rf _)
    | 3 =>
      refine Ole_eq (by rw [x_intOf]) (by rw [x_intOf]) ?_
      exact ih _ _ _ _
    | 4 =>
      refine Ole_eq (by rw [x_intOf]) (by rw [x_intOf]) ?_
      exact Ole_ite (ih _ _ _ _) (ih _ _ _ _)
    | 5 =>
      refine Ole_eq (by rw [x_intOf]) (by rw [x_intOf]) ?_
      exact ih _ _ _ _
    | 6 =>
      refine Ole_eq (by rw [x_intOf]) (by rw [x_intOf]) ?_
      exact Ole_ob (f_signOf k _ _ _) (fun _ => Ole_ite (ih _ _ _ _) (ih _ _ _ _))
    | 7 =>
      refine Ole_eq (by rw [x_intOf]) (by rw [x_intOf]) ?_
      exact ih _ _ _ _
    | 8 =>
      refine Ole_eq (by rw [x_intOf]) (by rw [x_intOf]) ?_
      exact Ole_rf _
    | b + 9 =>
      refine Ole_eq (by rw [x_intOf]) (by rw [x_intOf]) (Ole_no _)
theorem f_byteString : ∀ (k b : Nat) (L : Nat → Int32) (σ : MS), Ole (x_byteString k b L σ) (x_byteString (k + 1) b L σ) := by
  intro k
  induction k with
  | zero => intro b L σ; exact Ole_no _
  | succ k ih =>
    intro b L σ
    match b with
    | 0 =>
      refine Ole_eq (by rw [x_byteString]) (by rw [x_byteString]) ?_
      exact Ole_ob (f_make k _ _ _) (fun _ => Ole_ite (ih _ _ _) (Ole_rf _))
    | 1 =>
      refine Ole_eq (by rw [x_byteString]) (by rw [x_byteString]) ?_
      exact Ole_ite (ih _ _ _) (Ole_rf _)
    | 2 =>
      refine Ole_eq (by rw [x_byteString]) (by rw [x_byteString]) ?_
      exact Ole_ite (ih _ _ _) (Ole_rf _)
    | 3 =>
      refine Ole_eq (by rw [x_byteString]) (by rw [x_byteString]) ?_
      exact Ole_rf _
    | b + 4 =>
      refine Ole_eq (by rw [x_byteString]) (by rw [x_byteString]) (Ole_no _)
theorem f_character : ∀ (k b : Nat) (L : Nat → Int32) (σ : MS), Ole (x_character k b L σ) (x_character (k + 1) b L σ) := by
  intro k
  induction k with
  | zero => intro b L σ; exact Ole_no _
  | succ k ih =>
    intro b L σ
    match b with
    | 0 =>
      refine Ole_eq (by rw [x_character]) (by rw [x_character]) ?_
      exact Ole_ob (f_kind k _ _ _) (fun _ => Ole_ite (ih _ _ _) (Ole_ob (f_wrongKind k _ _ _) (fun _ => Ole_rf _)))
    | 1 =>
      refine Ole_eq (by rw [x_character]) (by rw [x_character]) ?_
      exact Ole_ob (f_intOf k _ _ _ _) (fun _ => Ole_ite (ih _ _ _) (Ole_ite (ih _ _ _) (ih _ _ _)))
    | 2 =>
      refine Ole_eq (by rw [x_character]) (by rw [x_character]) ?_
      exact Ole_ob (f_fail k _ _ _) (fun _ => Ole_rf _)
    | 3 =>
      refine Ole_eq (by rw [x_character]) (by rw [x_character]) ?_
      exact Ole_ob (f_byteString k _ _ _) (fun _ => Ole_rf _)
    | b + 4 =>
      refine Ole_eq (by rw [x_character]) (by rw [x_character]) (Ole_no _)
theorem f_small : ∀ (k b : Nat) (L : Nat → Int32) (σ : MS), Ole (x_small k b L σ) (x_small (k + 1) b L σ) := by
  intro k
  induction k with
  | zero => intro b L σ; exact Ole_no _
  | succ k ih =>
    intro b L σ
    match b with
    | 0 =>
      refine Ole_eq (by rw [x_small]) (by rw [x_small]) ?_
      exact ih _ _ _
    | 1 =>
      refine Ole_eq (by rw [x_small]) (by rw [x_small]) ?_
      exact Ole_ite (ih _ _ _) (ih _ _ _)
    | 2 =>
      refine Ole_eq (by rw [x_small]) (by rw [x_small]) ?_
      exact ih _ _ _
    | 3 =>
      refine Ole_eq (by rw [x_small]) (by rw [x_small]) ?_
      exact ih _ _ _
    | 4 =>
      refine Ole_eq (by rw [x_small]) (by rw [x_small]) ?_
      exact Ole_ite (ih _ _ _) (Ole_ite (ih _ _ _) (Ole_rf _))
    | 5 =>
      refine Ole_eq (by rw [x_small]) (by rw [x_small]) ?_
      exact ih _ _ _
    | 6 =>
      refine Ole_eq (by rw [x_small]) (by rw [x_small]) ?_
      exact Ole_ite (ih _ _ _) (ih _ _ _)
    | 7 =>
      refine Ole_eq (by rw [x_small]) (by rw [x_small]) ?_
      exact ih _ _ _
    | 8 =>
      refine Ole_eq (by rw [x_small]) (by rw [x_small]) ?_
      exact Ole_ob (f_wholeOf k _ _ _) (fun _ => Ole_rf _)
    | b + 9 =>
      refine Ole_eq (by rw [x_small]) (by rw [x_small]) (Ole_no _)
theorem f_codeOf : ∀ (k b : Nat) (L : Nat → Int32) (σ : MS), Ole (x_codeOf k b L σ) (x_codeOf (k + 1) b L σ) := by
  intro k
  induction k with
  | zero => intro b L σ; exact Ole_no _
  | succ k ih =>
    intro b L σ
    match b with
    | 0 =>
      refine Ole_eq (by rw [x_codeOf]) (by rw [x_codeOf]) ?_
      exact Ole_ob (f_kind k _ _ _) (fun _ => Ole_ite (ih _ _ _) (Ole_ob (f_wrongKind k _ _ _) (fun _ => Ole_rf _)))
    | 1 =>
      refine Ole_eq (by rw [x_codeOf]) (by rw [x_codeOf]) ?_
      exact Ole_ite (Ole_ite (ih _ _ _) (Ole_ob (f_fail k _ _ _) (fun _ => Ole_rf _))) (Ole_rf _)
    | 2 =>
      refine Ole_eq (by rw [x_codeOf]) (by rw [x_codeOf]) ?_
      exact Ole_ite (Ole_ob (f_small k _ _ _) (fun _ => Ole_rf _)) (Ole_rf _)
    | b + 3 =>
      refine Ole_eq (by rw [x_codeOf]) (by rw [x_codeOf]) (Ole_no _)
theorem f_stringOf__51 : ∀ (k b : Nat) (L : Nat → Int32) (σ : MS), Ole (x_stringOf__51 k b L σ) (x_stringOf__51 (k + 1) b L σ) := by
  intro k
  induction k with
  | zero => intro b L σ; exact Ole_no _
  | succ k ih =>
    intro b L σ
    match b with
    | 0 =>
      refine Ole_eq (by rw [x_stringOf__51]) (by rw [x_stringOf__51]) ?_
      exact Ole_ite (Ole_rf _) (Ole_ite (ih _ _ _) (Ole_ob (f_fail k _ _ _) (fun _ => Ole_rf _)))
    | 1 =>
      refine Ole_eq (by rw [x_stringOf__51]) (by rw [x_stringOf__51]) ?_
      exact Ole_ob (f_make k _ _ _) (fun _ => ih _ _ _)
    | 2 =>
      refine Ole_eq (by rw [x_stringOf__51]) (by rw [x_stringOf__51]) ?_
      exact Ole_ite (ih _ _ _) (Ole_ite (Ole_ite (Ole_ite (ih _ _ _) (Ole_rf _)) (Ole_rf _)) (ih _ _ _))
    | 3 =>
      refine Ole_eq (by rw [x_stringOf__51]) (by rw [x_stringOf__51]) ?_
      exact ih _ _ _
    | 4 =>
      refine Ole_eq (by rw [x_stringOf__51]) (by rw [x_stringOf__51]) ?_
      exact Ole_ite (Ole_rf _) (Ole_ite (ih _ _ _) (Ole_rf _))
    | 5 =>
      refine Ole_eq (by rw [x_stringOf__51]) (by rw [x_stringOf__51]) ?_
      exact Ole_rf _
    | b + 6 =>
      refine Ole_eq (by rw [x_stringOf__51]) (by rw [x_stringOf__51]) (Ole_no _)
theorem f_tupleOf : ∀ (k b : Nat) (L : Nat → Int32) (σ : MS), Ole (x_tupleOf k b L σ) (x_tupleOf (k + 1) b L σ) := by
  intro k
  induction k with
  | zero => intro b L σ; exact Ole_no _
  | succ k ih =>
    intro b L σ
    match b with
    | 0 =>
      refine Ole_eq (by rw [x_tupleOf]) (by rw [x_tupleOf]) ?_
      exact ih _ _ _
    | 1 =>
      refine Ole_eq (by rw [x_tupleOf]) (by rw [x_tupleOf]) ?_
      exact Ole_ite (ih _ _ _) (Ole_ite (Ole_ite (ih _ _ _) (ih _ _ _)) (Ole_rf _))
    | 2 =>
      refine Ole_eq (by rw [x_tupleOf]) (by rw [x_tupleOf]) ?_
      exact ih _ _ _
    | 3 =>
      refine Ole_eq (by rw [x_tupleOf]) (by rw [x_tupleOf]) ?_
      exact Ole_ob (f_make k _ _ _) (fun _ => Ole_ite (ih _ _ _) (Ole_rf _))
    | 4 =>
      refine Ole_eq (by rw [x_tupleOf]) (by rw [x_tupleOf]) ?_
      exact ih _ _ _
    | 5 =>
      refine Ole_eq (by rw [x_tupleOf]) (by rw [x_tupleOf]) ?_
      exact Ole_ite (ih _ _ _) (Ole_ite (Ole_ite (ih _ _ _) (Ole_rf _)) (Ole_rf _))
    | 6 =>
      refine Ole_eq (by rw [x_tupleOf]) (by rw [x_tupleOf]) ?_
      exact ih _ _ _
    | 7 =>
      refine Ole_eq (by rw [x_tupleOf]) (by rw [x_tupleOf]) ?_
      exact Ole_ob (f_measured k _ _ _) (fun _ => Ole_rf _)
    | b + 8 =>
      refine Ole_eq (by rw [x_tupleOf]) (by rw [x_tupleOf]) (Ole_no _)
theorem f_reversed : ∀ (k b : Nat) (L : Nat → Int32) (σ : MS), Ole (x_reversed k b L σ) (x_reversed (k + 1) b L σ) := by
  intro k
  induction k with
  | zero => intro b L σ; exact Ole_no _
  | succ k ih =>
    intro b L σ
    match b with
    | 0 =>
      refine Ole_eq (by rw [x_reversed]) (by rw [x_reversed]) ?_
      exact Ole_ob (f_kind k _ _ _) (fun _ => Ole_ite (ih _ _ _) (Ole_ite (ih _ _ _) (Ole_ob (f_wrongKind k _ _ _) (fun _ => Ole_rf _))))
    | 1 =>
      refine Ole_eq (by rw [x_reversed]) (by rw [x_reversed]) ?_
      exact Ole_ite (Ole_ite (ih _ _ _) (ih _ _ _)) (Ole_rf _)
    | 2 =>
      refine Ole_eq (by rw [x_reversed]) (by rw [x_reversed]) ?_
      exact Ole_ite (ih _ _ _) (Ole_ite (Ole_ite (ih _ _ _) (Ole_rf _)) (Ole_rf _))
    | 3 =>
      refine Ole_eq (by rw [x_reversed]) (by rw [x_reversed]) ?_
      exact ih _ _ _
    | 4 =>
      refine Ole_eq (by rw [x_reversed]) (by rw [x_reversed]) ?_
      exact Ole_ob (f_stringOf__51 k _ _ _) (fun _ => Ole_rf _)
    | 5 =>
      refine Ole_eq (by rw [x_reversed]) (by rw [x_reversed]) ?_
      exact ih _ _ _
    | 6 =>
      refine Ole_eq (by rw [x_reversed]) (by rw [x_reversed]) ?_
      exact Ole_ite (ih _ _ _) (Ole_ite (Ole_ob (f_push k _ _ _) (fun _ => ih _ _ _)) (Ole_rf _))
    | 7 =>
      refine Ole_eq (by rw [x_reversed]) (by rw [x_reversed]) ?_
      exact Ole_ob (f_tupleOf k _ _ _) (fun _ => Ole_rf _)
    | b + 8 =>
      refine Ole_eq (by rw [x_reversed]) (by rw [x_reversed]) (Ole_no _)
theorem f_draw : ∀ (k b : Nat) (L : Nat → Int32) (σ : MS), Ole (x_draw k b L σ) (x_draw (k + 1) b L σ) := by
  intro k
  induction k with
  | zero => intro b L σ; exact Ole_no _
  | succ k ih =>
    intro b L σ
    match b with
    | 0 =>
      refine Ole_eq (by rw [x_draw]) (by rw [x_draw]) ?_
      exact ih _ _ _
    | 1 =>
      refine Ole_eq (by rw [x_draw]) (by rw [x_draw]) ?_
      exact Ole_ite (Ole_rf _) (Ole_rf _)
    | b + 2 =>
      refine Ole_eq (by rw [x_draw]) (by rw [x_draw]) (Ole_no _)
theorem f_memberAt : ∀ (k b : Nat) (L : Nat → Int32) (σ : MS), Ole (x_memberAt k b L σ) (x_memberAt (k + 1) b L σ) := by
  intro k
  induction k with
  | zero => intro b L σ; exact Ole_no _
  | succ k ih =>
    intro b L σ
    match b with
    | 0 =>
      refine Ole_eq (by rw [x_memberAt]) (by rw [x_memberAt]) ?_
      exact Ole_ite (Ole_ite (Ole_ite (Ole_ob (f_byteString k _ _ _) (fun _ => ih _ _ _)) (Ole_rf _)) (ih _ _ _)) (Ole_rf _)
    | 1 =>
      refine Ole_eq (by rw [x_memberAt]) (by rw [x_memberAt]) ?_
      exact Ole_ite (ih _ _ _) (Ole_rf _)
    | 2 =>
      refine Ole_eq (by rw [x_memberAt]) (by rw [x_memberAt]) ?_
      exact Ole_rf _
    | b + 3 =>
      refine Ole_eq (by rw [x_memberAt]) (by rw [x_memberAt]) (Ole_no _)
theorem f_drawn : ∀ (k b : Nat) (L : Nat → Int32) (σ : MS), Ole (x_drawn k b L σ) (x_drawn (k + 1) b L σ) := by
  intro k
  induction k with
  | zero => intro b L σ; exact Ole_no _
  | succ k ih =>
    intro b L σ
    match b with
    | 0 =>
      refine Ole_eq (by rw [x_drawn]) (by rw [x_drawn]) ?_
      exact Ole_ob (f_kind k _ _ _) (fun _ => Ole_ite (Ole_ite (Ole_ite (ih _ _ _) (ih _ _ _)) (Ole_rf _)) (ih _ _ _))
    | 1 =>
      refine Ole_eq (by rw [x_drawn]) (by rw [x_drawn]) ?_
      exact Ole_ob (f_intOf k _ _ _ _) (fun _ => ih _ _ _)
    | 2 =>
      refine Ole_eq (by rw [x_drawn]) (by rw [x_drawn]) ?_
      exact Ole_ite (Ole_ite (Ole_ob (f_signOf k _ _ _) (fun _ => Ole_ite (ih _ _ _) (Ole_ite (Ole_ite (Ole_ite (Ole_ite (ih _ _ _) (ih _ _ _)) (Ole_rf _)) (ih _ _ _)) (Ole_rf _)))) (ih _ _ _)) (Ole_rf _)
    | 3 =>
      refine Ole_eq (by rw [x_drawn]) (by rw [x_drawn]) ?_
      exact ih _ _ _
    | 4 =>
      refine Ole_eq (by rw [x_drawn]) (by rw [x_drawn]) ?_
      exact Ole_ite (ih _ _ _) (Ole_ite (Ole_ite (ih _ _ _) (ih _ _ _)) (ih _ _ _))
    | 5 =>
      refine Ole_eq (by rw [x_drawn]) (by rw [x_drawn]) ?_
      exact Ole_ob (f_fail k _ _ _) (fun _ => Ole_rf _)
    | 6 =>
      refine Ole_eq (by rw [x_drawn]) (by rw [x_drawn]) ?_
      exact Ole_ite (ih _ _ _) (ih _ _ _)
    | 7 =>
      refine Ole_eq (by rw [x_drawn]) (by rw [x_drawn]) ?_
      exact ih _ _ _
    | 8 =>
      refine Ole_eq (by rw [x_drawn]) (by rw [x_drawn]) ?_
      exact Ole_ob (f_draw k _ _ _) (fun _ => Ole_ob (f_small k _ _ _) (fun _ => Ole_rf _))
    | 9 =>
      refine Ole_eq (by rw [x_drawn]) (by rw [x_drawn]) ?_
      exact Ole_ite (ih _ _ _) (Ole_ob (f_wrongKind k _ _ _) (fun _ => Ole_rf _))
    | 10 =>
      refine Ole_eq (by rw [x_drawn]) (by rw [x_drawn]) ?_
      exact Ole_ite (Ole_ite (ih _ _ _) (ih _ _ _)) (Ole_rf _)
    | 11 =>
      refine Ole_eq (by rw [x_drawn]) (by rw [x_drawn]) ?_
      exact Ole_ite (Ole_ob (f_draw k _ _ _) (fun _ => Ole_ob (f_memberAt k _ _ _) (fun _ => ih _ _ _))) (Ole_rf _)
    | 12 =>
      refine Ole_eq (by rw [x_drawn]) (by rw [x_drawn]) ?_
      exact Ole_rf _
    | b + 13 =>
      refine Ole_eq (by rw [x_drawn]) (by rw [x_drawn]) (Ole_no _)
theorem f_function : ∀ (k b : Nat) (L : Nat → Int32) (σ : MS), Ole (x_function k b L σ) (x_function (k + 1) b L σ) := by
  intro k
  induction k with
  | zero => intro b L σ; exact Ole_no _
  | succ k ih =>
    intro b L σ
    match b with
    | 0 =>
      refine Ole_eq (by rw [x_function]) (by rw [x_function]) ?_
      exact Ole_ob (f_kind k _ _ _) (fun _ => Ole_ite (ih _ _ _) (Ole_ite (ih _ _ _) (Ole_ite (ih _ _ _) (Ole_ite (ih _ _ _) (Ole_ite (ih _ _ _) (Ole_ite (ih _ _ _) (Ole_ite (ih _ _ _) (Ole_ite (ih _ _ _) (Ole_ite (ih _ _ _) (Ole_ite (ih _ _ _) (Ole_ite (ih _ _ _) (Ole_ite (ih _ _ _) (ih _ _ _)))))))))))))
    | 1 =>
      refine Ole_eq (by rw [x_function]) (by rw [x_function]) ?_
      exact Ole_ite (ih _ _ _) (Ole_ob (f_wrongKind k _ _ _) (fun _ => ih _ _ _))
    | 2 =>
      refine Ole_eq (by rw [x_function]) (by rw [x_function]) ?_
      exact Ole_ob (f_signOf k _ _ _) (fun _ => Ole_ite (ih _ _ _) (Ole_ob (f_other k _ _ _) (fun _ => ih _ _ _)))
    | 3 =>
      refine Ole_eq (by rw [x_function]) (by rw [x_function]) ?_
      exact ih _ _ _
    | 4 =>
      refine Ole_eq (by rw [x_function]) (by rw [x_function]) ?_
      exact Ole_rf _
    | 5 =>
      refine Ole_eq (by rw [x_function]) (by rw [x_function]) ?_
      exact Ole_ite (ih _ _ _) (Ole_ob (f_wrongKind k _ _ _) (fun _ => ih _ _ _))
    | 6 =>
      refine Ole_eq (by rw [x_function]) (by rw [x_function]) ?_
      exact Ole_ite (Ole_ite (ih _ _ _) (ih _ _ _)) (Ole_rf _)
    | 7 =>
      refine Ole_eq (by rw [x_function]) (by rw [x_function]) ?_
      exact Ole_ite (ih _ _ _) (Ole_rf _)
    | 8 =>
      refine Ole_eq (by rw [x_function]) (by rw [x_function]) ?_
      exact Ole_rf _
    | 9 =>
      refine Ole_eq (by rw [x_function]) (by rw [x_function]) ?_
      exact Ole_ob (f_side k _ _ _) (fun _ => Ole_rf _)
    | 10 =>
      refine Ole_eq (by rw [x_function]) (by rw [x_function]) ?_
      exact Ole_ob (f_side k _ _ _) (fun _ => Ole_rf _)
    | 11 =>
      refine Ole_eq (by rw [x_function]) (by rw [x_function]) ?_
      exact Ole_ob (f_powerSet k _ _ _) (fun _ => Ole_rf _)
    | 12 =>
      refine Ole_eq (by rw [x_function]) (by rw [x_function]) ?_
      exact Ole_ob (f_typeOf k _ _ _) (fun _ => Ole_rf _)
    | 13 =>
      refine Ole_eq (by rw [x_function]) (by rw [x_function]) ?_
      exact ih _ _ _
    | 14 =>
      refine Ole_eq (by rw [x_function]) (by rw [x_function]) ?_
      exact Ole_ob (f_print k _ _ _) (fun _ => Ole_ob (f_stringOf__48 k _ _ _) (fun _ => Ole_rf _))
    | 15 =>
      refine Ole_eq (by rw [x_function]) (by rw [x_function]) ?_
      exact Ole_ob (f_character k _ _ _) (fun _ => Ole_rf _)
    | 16 =>
      refine Ole_eq (by rw [x_function]) (by rw [x_function]) ?_
      exact Ole_ob (f_codeOf k _ _ _) (fun _ => Ole_rf _)
    | 17 =>
      refine Ole_eq (by rw [x_function]) (by rw [x_function]) ?_
      exact Ole_ob (f_reversed k _ _ _) (fun _ => Ole_rf _)
    | 18 =>
      refine Ole_eq (by rw [x_function]) (by rw [x_function]) ?_
      exact Ole_ob (f_drawn k _ _ _) (fun _ => Ole_rf _)
    | b + 19 =>
      refine Ole_eq (by rw [x_function]) (by rw [x_function]) (Ole_no _)
theorem f_negative : ∀ (k b : Nat) (L : Nat → Int32) (σ : MS), Ole (x_negative k b L σ) (x_negative (k + 1) b L σ) := by
  intro k
  induction k with
  | zero => intro b L σ; exact Ole_no _
  | succ k ih =>
    intro b L σ
    match b with
    | 0 =>
      refine Ole_eq (by rw [x_negative]) (by rw [x_negative]) ?_
      exact Ole_ob (f_kind k _ _ _) (fun _ => Ole_ite (ih _ _ _) (Ole_ob (f_wrongKind k _ _ _) (fun _ => ih _ _ _)))
    | 1 =>
      refine Ole_eq (by rw [x_negative]) (by rw [x_negative]) ?_
      exact Ole_ob (f_other k _ _ _) (fun _ => ih _ _ _)
    | 2 =>
      refine Ole_eq (by rw [x_negative]) (by rw [x_negative]) ?_
      exact Ole_rf _
    | b + 3 =>
      refine Ole_eq (by rw [x_negative]) (by rw [x_negative]) (Ole_no _)
theorem f_many : ∀ (k b : Nat) (L : Nat → Int32) (σ : MS), Ole (x_many k b L σ) (x_many (k + 1) b L σ) := by
  intro k
  induction k with
  | zero => intro b L σ; exact Ole_no _
  | succ k ih =>
    intro b L σ
    match b with
    | 0 =>
      refine Ole_eq (by rw [x_many]) (by rw [x_many]) ?_
      exact Ole_ob (f_kind k _ _ _) (fun _ => Ole_ite (ih _ _ _) (Ole_ob (f_fail k _ _ _) (fun _ => Ole_rf _)))
    | 1 =>
      refine Ole_eq (by rw [x_many]) (by rw [x_many]) ?_
      exact Ole_ite (Ole_ob (f_small k _ _ _) (fun _ => Ole_rf _)) (Ole_rf _)
    | b + 2 =>
      refine Ole_eq (by rw [x_many]) (by rw [x_many]) (Ole_no _)
theorem f_truth : ∀ (k b : Nat) (L : Nat → Int32) (σ : MS), Ole (x_truth k b L σ) (x_truth (k + 1) b L σ) := by
  intro k
  induction k with
  | zero => intro b L σ; exact Ole_no _
  | succ k ih =>
    intro b L σ
    match b with
    | 0 =>
      refine Ole_eq (by rw [x_truth]) (by rw [x_truth]) ?_
      exact Ole_ite (ih _ _ _) (ih _ _ _)
    | 1 =>
      refine Ole_eq (by rw [x_truth]) (by rw [x_truth]) ?_
      exact ih _ _ _
    | 2 =>
      refine Ole_eq (by rw [x_truth]) (by rw [x_truth]) ?_
      exact Ole_rf _
    | b + 3 =>
      refine Ole_eq (by rw [x_truth]) (by rw [x_truth]) (Ole_no _)
theorem f_turned : ∀ (k b : Nat) (L : Nat → Int32) (σ : MS), Ole (x_turned k b L σ) (x_turned (k + 1) b L σ) := by
  intro k
  induction k with
  | zero => intro b L σ; exact Ole_no _
  | succ k ih =>
    intro b L σ
    match b with
    | 0 =>
      refine Ole_eq (by rw [x_turned]) (by rw [x_turned]) ?_
      exact Ole_ite (ih _ _ _) (Ole_ite (ih _ _ _) (Ole_ob (f_fail k _ _ _) (fun _ => ih _ _ _)))
    | 1 =>
      refine Ole_eq (by rw [x_turned]) (by rw [x_turned]) ?_
      exact Ole_ite (ih _ _ _) (ih _ _ _)
    | 2 =>
      refine Ole_eq (by rw [x_turned]) (by rw [x_turned]) ?_
      exact ih _ _ _
    | 3 =>
      refine Ole_eq (by rw [x_turned]) (by rw [x_turned]) ?_
      exact Ole_ob (f_truth k _ _ _) (fun _ => Ole_rf _)
    | b + 4 =>
      refine Ole_eq (by rw [x_turned]) (by rw [x_turned]) (Ole_no _)
theorem f_loadB : ∀ (k b : Nat) (L : Nat → Int32) (σ : MS), Ole (x_loadB k b L σ) (x_loadB (k + 1) b L σ) := by
  intro k
  induction k with
  | zero => intro b L σ; exact Ole_no _
  | succ k ih =>
    intro b L σ
    match b with
    | 0 =>
      refine Ole_eq (by rw [x_loadB]) (by rw [x_loadB]) ?_
      exact Ole_ite (ih _ _ _) (Ole_rf _)
    | 1 =>
      refine Ole_eq (by rw [x_loadB]) (by rw [x_loadB]) ?_
      exact ih _ _ _
    | 2 =>
      refine Ole_eq (by rw [x_loadB]) (by rw [x_loadB]) ?_
      exact Ole_ite (ih _ _ _) (Ole_ite (Ole_ite (ih _ _ _) (Ole_rf _)) (Ole_rf _))
    | 3 =>
      refine Ole_eq (by rw [x_loadB]) (by rw [x_loadB]) ?_
      exact ih _ _ _
    | 4 =>
      refine Ole_eq (by rw [x_loadB]) (by rw [x_loadB]) ?_
      exact Ole_rf _
    | b + 5 =>
      refine Ole_eq (by rw [x_loadB]) (by rw [x_loadB]) (Ole_no _)
theorem f_compareRows__42__43 : ∀ (k b : Nat) (L : Nat → Int32) (σ : MS), Ole (x_compareRows__42__43 k b L σ) (x_compareRows__42__43 (k + 1) b L σ) := by
  intro k
  induction k with
  | zero => intro b L σ; exact Ole_no _
  | succ k ih =>
    intro b L σ
    match b with
    | 0 =>
      refine Ole_eq (by rw [x_compareRows__42__43]) (by rw [x_compareRows__42__43]) ?_
      exact ih _ _ _
    | 1 =>
      refine Ole_eq (by rw [x_compareRows__42__43]) (by rw [x_compareRows__42__43]) ?_
      exact Ole_ite (ih _ _ _) (Ole_ite (Ole_ite (Ole_ite (ih _ _ _) (Ole_rf _)) (Ole_rf _)) (ih _ _ _))
    | 2 =>
      refine Ole_eq (by rw [x_compareRows__42__43]) (by rw [x_compareRows__42__43]) ?_
      exact Ole_rf _
    | b + 3 =>
      refine Ole_eq (by rw [x_compareRows__42__43]) (by rw [x_compareRows__42__43]) (Ole_no _)
theorem f_add : ∀ (k b : Nat) (L : Nat → Int32) (σ : MS), Ole (x_add k b L σ) (x_add (k + 1) b L σ) := by
  intro k
  induction k with
  | zero => intro b L σ; exact Ole_no _
  | succ k ih =>
    intro b L σ
    match b with
    | 0 =>
      refine Ole_eq (by rw [x_add]) (by rw [x_add]) ?_
      exact Ole_ob (f_loadA k _ _ _) (fun _ => Ole_ob (f_loadB k _ _ _) (fun _ => Ole_ob (f_signOf k _ _ _) (fun _ => Ole_ob (f_signOf k _ _ _) (fun _ => Ole_ite (ih _ _ _) (Ole_ite (ih _ _ _) (Ole_ite (ih _ _ _) (ih _ _ _)))))))
    | 1 =>
      refine Ole_eq (by rw [x_add]) (by rw [x_add]) ?_
      exact Ole_ite (ih _ _ _) (ih _ _ _)
    | 2 =>
      refine Ole_eq (by rw [x_add]) (by rw [x_add]) ?_
      exact ih _ _ _
    | 3 =>
      refine Ole_eq (by rw [x_add]) (by rw [x_add]) ?_
      exact ih _ _ _
    | 4 =>
      refine Ole_eq (by rw [x_add]) (by rw [x_add]) ?_
      exact ih _ _ _
    | 5 =>
      refine Ole_eq (by rw [x_add]) (by rw [x_add]) ?_
      exact Ole_ite (ih _ _ _) (Ole_ite (ih _ _ _) (Ole_ite (ih _ _ _) (Ole_rf _)))
    | 6 =>
      refine Ole_eq (by rw [x_add]) (by rw [x_add]) ?_
      exact ih _ _ _
    | 7 =>
      refine Ole_eq (by rw [x_add]) (by rw [x_add]) ?_
      exact Ole_ite (ih _ _ _) (Ole_ite (ih _ _ _) (Ole_rf _))
    | 8 =>
      refine Ole_eq (by rw [x_add]) (by rw [x_add]) ?_
      exact ih _ _ _
    | 9 =>
      refine Ole_eq (by rw [x_add]) (by rw [x_add]) ?_
      exact Ole_ite (ih _ _ _) (Ole_rf _)
    | 10 =>
      refine Ole_eq (by rw [x_add]) (by rw [x_add]) ?_
      exact ih _ _ _
    | 11 =>
      refine Ole_eq (by rw [x_add]) (by rw [x_add]) ?_
      exact Ole_ite (ih _ _ _) (Ole_ite (ih _ _ _) (Ole_rf _))
    | 12 =>
      refine Ole_eq (by rw [x_add]) (by rw [x_add]) ?_
      exact ih _ _ _
    | 13 =>
      refine Ole_eq (by rw [x_add]) (by rw [x_add]) ?_
      exact Ole_ite (ih _ _ _) (ih _ _ _)
    | 14 =>
      refine Ole_eq (by rw [x_add]) (by rw [x_add]) ?_
      exact ih _ _ _
    | 15 =>
      refine Ole_eq (by rw [x_add]) (by rw [x_add]) ?_
      exact Ole_ob (f_wholeOf k _ _ _) (fun _ => Ole_rf _)
    | 16 =>
      refine Ole_eq (by rw [x_add]) (by rw [x_add]) ?_
      exact Ole_ob (f_compareRows__42__43 k _ _ _) (fun _ => Ole_ite (ih _ _ _) (ih _ _ _))
    | 17 =>
      refine Ole_eq (by rw [x_add]) (by rw [x_add]) ?_
      exact ih _ _ _
    | 18 =>
      refine Ole_eq (by rw [x_add]) (by rw [x_add]) ?_
      exact ih _ _ _
    | 19 =>
      refine Ole_eq (by rw [x_add]) (by rw [x_add]) ?_
      exact ih _ _ _
    | 20 =>
      refine Ole_eq (by rw [x_add]) (by rw [x_add]) ?_
      exact Ole_ite (ih _ _ _) (Ole_ite (ih _ _ _) (Ole_ite (ih _ _ _) (Ole_rf _)))
    | 21 =>
      refine Ole_eq (by rw [x_add]) (by rw [x_add]) ?_
      exact ih _ _ _
    | 22 =>
      refine Ole_eq (by rw [x_add]) (by rw [x_add]) ?_
      exact Ole_ite (ih _ _ _) (Ole_ite (ih _ _ _) (Ole_rf _))
    | 23 =>
      refine Ole_eq (by rw [x_add]) (by rw [x_add]) ?_
      exact ih _ _ _
    | 24 =>
      refine Ole_eq (by rw [x_add]) (by rw [x_add]) ?_
      exact Ole_ite (ih _ _ _) (ih _ _ _)
    | 25 =>
      refine Ole_eq (by rw [x_add]) (by rw [x_add]) ?_
      exact ih _ _ _
    | 26 =>
      refine Ole_eq (by rw [x_add]) (by rw [x_add]) ?_
      exact Ole_ite (ih _ _ _) (ih _ _ _)
    | 27 =>
      refine Ole_eq (by rw [x_add]) (by rw [x_add]) ?_
      exact ih _ _ _
    | 28 =>
      refine Ole_eq (by rw [x_add]) (by rw [x_add]) ?_
      exact Ole_ite (ih _ _ _) (Ole_rf _)
    | 29 =>
      refine Ole_eq (by rw [x_add]) (by rw [x_add]) ?_
      exact ih _ _ _
    | 30 =>
      refine Ole_eq (by rw [x_add]) (by rw [x_add]) ?_
      exact Ole_ite (ih _ _ _) (ih _ _ _)
    | 31 =>
      refine Ole_eq (by rw [x_add]) (by rw [x_add]) ?_
      exact ih _ _ _
    | 32 =>
      refine Ole_eq (by rw [x_add]) (by rw [x_add]) ?_
      exact Ole_ob (f_wholeOf k _ _ _) (fun _ => Ole_rf _)
    | b + 33 =>
      refine Ole_eq (by rw [x_add]) (by rw [x_add]) (Ole_no _)
theorem f_joined : ∀ (k b : Nat) (L : Nat → Int32) (σ : MS), Ole (x_joined k b L σ) (x_joined (k + 1) b L σ) := by
  intro k
  induction k with
  | zero => intro b L σ; exact Ole_no _
  | succ k ih =>
    intro b L σ
    match b with
    | 0 =>
      refine Ole_eq (by rw [x_joined]) (by rw [x_joined]) ?_
      exact Ole_ite (Ole_ite (ih _ _ _) (Ole_rf _)) (Ole_rf _)
    | 1 =>
      refine Ole_eq (by rw [x_joined]) (by rw [x_joined]) ?_
      exact Ole_ite (ih _ _ _) (Ole_ite (Ole_ite (ih _ _ _) (Ole_rf _)) (Ole_rf _))
    | 2 =>
      refine Ole_eq (by rw [x_joined]) (by rw [x_joined]) ?_
      exact ih _ _ _
    | 3 =>
      refine Ole_eq (by rw [x_joined]) (by rw [x_joined]) ?_
      exact ih _ _ _
    | 4 =>
      refine Ole_eq (by rw [x_joined]) (by rw [x_joined]) ?_
      exact Ole_ite (ih _ _ _) (Ole_ite (Ole_ite (ih _ _ _) (Ole_rf _)) (Ole_rf _))
    | 5 =>
      refine Ole_eq (by rw [x_joined]) (by rw [x_joined]) ?_
      exact ih _ _ _
    | 6 =>
      refine Ole_eq (by rw [x_joined]) (by rw [x_joined]) ?_
      exact Ole_ob (f_stringOf__51 k _ _ _) (fun _ => Ole_rf _)
    | b + 7 =>
      refine Ole_eq (by rw [x_joined]) (by rw [x_joined]) (Ole_no _)
theorem f_plus : ∀ (k b : Nat) (L : Nat → Int32) (σ : MS), Ole (x_plus k b L σ) (x_plus (k + 1) b L σ) := by
  intro k
  induction k with
  | zero => intro b L σ; exact Ole_no _
  | succ k ih =>
    intro b L σ
    match b with
    | 0 =>
      refine Ole_eq (by rw [x_plus]) (by rw [x_plus]) ?_
      exact Ole_ob (f_kind k _ _ _) (fun _ => Ole_ob (f_kind k _ _ _) (fun _ => Ole_ite (Ole_ite (ih _ _ _) (Ole_ite (ih _ _ _) (ih _ _ _))) (ih _ _ _)))
    | 1 =>
      refine Ole_eq (by rw [x_plus]) (by rw [x_plus]) ?_
      exact Ole_ob (f_wrongKind k _ _ _) (fun _ => Ole_rf _)
    | 2 =>
      refine Ole_eq (by rw [x_plus]) (by rw [x_plus]) ?_
      exact Ole_ite (Ole_ob (f_add k _ _ _) (fun _ => Ole_rf _)) (ih _ _ _)
    | 3 =>
      refine Ole_eq (by rw [x_plus]) (by rw [x_plus]) ?_
      exact Ole_ite (Ole_ob (f_joined k _ _ _) (fun _ => Ole_rf _)) (ih _ _ _)
    | 4 =>
      refine Ole_eq (by rw [x_plus]) (by rw [x_plus]) ?_
      exact ih _ _ _
    | 5 =>
      refine Ole_eq (by rw [x_plus]) (by rw [x_plus]) ?_
      exact Ole_ite (Ole_ite (ih _ _ _) (Ole_ite (Ole_ob (f_push k _ _ _) (fun _ => ih _ _ _)) (Ole_rf _))) (Ole_rf _)
    | 6 =>
      refine Ole_eq (by rw [x_plus]) (by rw [x_plus]) ?_
      exact ih _ _ _
    | 7 =>
      refine Ole_eq (by rw [x_plus]) (by rw [x_plus]) ?_
      exact Ole_ite (Ole_ite (ih _ _ _) (Ole_ite (Ole_ob (f_push k _ _ _) (fun _ => ih _ _ _)) (Ole_rf _))) (Ole_rf _)
    | 8 =>
      refine Ole_eq (by rw [x_plus]) (by rw [x_plus]) ?_
      exact Ole_ite (Ole_ob (f_setOf k _ _ _) (fun _ => ih _ _ _)) (ih _ _ _)
    | 9 =>
      refine Ole_eq (by rw [x_plus]) (by rw [x_plus]) ?_
      exact Ole_ob (f_tupleOf k _ _ _) (fun _ => ih _ _ _)
    | 10 =>
      refine Ole_eq (by rw [x_plus]) (by rw [x_plus]) ?_
      exact Ole_rf _
    | b + 11 =>
      refine Ole_eq (by rw [x_plus]) (by rw [x_plus]) (Ole_no _)
theorem f_has : ∀ (k b : Nat) (L : Nat → Int32) (σ : MS), Ole (x_has k b L σ) (x_has (k + 1) b L σ) := by
  intro k
  induction k with
  | zero => intro b L σ; exact Ole_no _
  | succ k ih =>
    intro b L σ
    match b with
    | 0 =>
      refine Ole_eq (by rw [x_has]) (by rw [x_has]) ?_
      exact Ole_ite (ih _ _ _) (Ole_rf _)
    | 1 =>
      refine Ole_eq (by rw [x_has]) (by rw [x_has]) ?_
      exact Ole_ite (ih _ _ _) (Ole_ite (Ole_rf _) (Ole_ite (Ole_ob (f_compare k _ _ _) (fun _ => Ole_ite (Ole_rf _) (ih _ _ _))) (Ole_rf _)))
    | 2 =>
      refine Ole_eq (by rw [x_has]) (by rw [x_has]) ?_
      exact Ole_ite (ih _ _ _) (ih _ _ _)
    | 3 =>
      refine Ole_eq (by rw [x_has]) (by rw [x_has]) ?_
      exact ih _ _ _
    | 4 =>
      refine Ole_eq (by rw [x_has]) (by rw [x_has]) ?_
      exact Ole_ite (ih _ _ _) (ih _ _ _)
    | 5 =>
      refine Ole_eq (by rw [x_has]) (by rw [x_has]) ?_
      exact ih _ _ _
    | 6 =>
      refine Ole_eq (by rw [x_has]) (by rw [x_has]) ?_
      exact ih _ _ _
    | 7 =>
      refine Ole_eq (by rw [x_has]) (by rw [x_has]) ?_
      exact Ole_rf _
    | b + 8 =>
      refine Ole_eq (by rw [x_has]) (by rw [x_has]) (Ole_no _)
theorem f_sift : ∀ (k b : Nat) (L : Nat → Int32) (σ : MS), Ole (x_sift k b L σ) (x_sift (k + 1) b L σ) := by
  intro k
  induction k with
  | zero => intro b L σ; exact Ole_no _
  | succ k ih =>
    intro b L σ
    match b with
    | 0 =>
      refine Ole_eq (by rw [x_sift]) (by rw [x_sift]) ?_
      exact ih _ _ _
    | 1 =>
      refine Ole_eq (by rw [x_sift]) (by rw [x_sift]) ?_
      exact Ole_ite (Ole_ite (ih _ _ _) (Ole_ite (Ole_ob (f_has k _ _ _) (fun _ => Ole_ite (Ole_ite (Ole_ob (f_push k _ _ _) (fun _ => ih _ _ _)) (Ole_rf _)) (ih _ _ _))) (Ole_rf _))) (Ole_rf _)
    | 2 =>
      refine Ole_eq (by rw [x_sift]) (by rw [x_sift]) ?_
      exact ih _ _ _
    | 3 =>
      refine Ole_eq (by rw [x_sift]) (by rw [x_sift]) ?_
      exact Ole_ob (f_setOf k _ _ _) (fun _ => Ole_rf _)
    | b + 4 =>
      refine Ole_eq (by rw [x_sift]) (by rw [x_sift]) (Ole_no _)
theorem f_multiply : ∀ (k b : Nat) (L : Nat → Int32) (J : Nat → Int64) (σ : MS), Ole (x_multiply k b L J σ) (x_multiply (k + 1) b L J σ) := by
  intro k
  induction k with
  | zero => intro b L J σ; exact Ole_no _
  | succ k ih =>
    intro b L J σ
    match b with
    | 0 =>
      refine Ole_eq (by rw [x_multiply]) (by rw [x_multiply]) ?_
      exact Ole_ob (f_loadA k _ _ _) (fun _ => Ole_ob (f_loadB k _ _ _) (fun _ => ih _ _ _ _))
    | 1 =>
      refine Ole_eq (by rw [x_multiply]) (by rw [x_multiply]) ?_
      exact ih _ _ _ _
    | 2 =>
      refine Ole_eq (by rw [x_multiply]) (by rw [x_multiply]) ?_
      exact Ole_ite (ih _ _ _ _) (Ole_ite (ih _ _ _ _) (Ole_rf _))
    | 3 =>
      refine Ole_eq (by rw [x_multiply]) (by rw [x_multiply]) ?_
      exact ih _ _ _ _
    | 4 =>
      refine Ole_eq (by rw [x_multiply]) (by rw [x_multiply]) ?_
      exact ih _ _ _ _
    | 5 =>
      refine Ole_eq (by rw [x_multiply]) (by rw [x_multiply]) ?_
      exact Ole_ite (ih _ _ _ _) (ih _ _ _ _)
    | 6 =>
      refine Ole_eq (by rw [x_multiply]) (by rw [x_multiply]) ?_
      exact Ole_ite (ih _ _ _ _) (Ole_ite (Ole_ite (Ole_ite (Ole_ite (ih _ _ _ _) (Ole_rf _)) (Ole_rf _)) (Ole_rf _)) (Ole_rf _))
    | 7 =>
      refine Ole_eq (by rw [x_multiply]) (by rw [x_multiply]) ?_
      exact ih _ _ _ _
    | 8 =>
      refine Ole_eq (by rw [x_multiply]) (by rw [x_multiply]) ?_
      exact Ole_ite (ih _ _ _ _) (Ole_rf _)
    | 9 =>
      refine Ole_eq (by rw [x_multiply]) (by rw [x_multiply]) ?_
      exact ih _ _ _ _
    | 10 =>
      refine Ole_eq (by rw [x_multiply]) (by rw [x_multiply]) ?_
      exact Ole_ob (f_signOf k _ _ _) (fun _ => Ole_ob (f_signOf k _ _ _) (fun _ => Ole_ob (f_wholeOf k _ _ _) (fun _ => Ole_rf _)))
    | b + 11 =>
      refine Ole_eq (by rw [x_multiply]) (by rw [x_multiply]) (Ole_no _)
theorem f_repeat : ∀ (k b : Nat) (L : Nat → Int32) (σ : MS), Ole (x_repeat k b L σ) (x_repeat (k + 1) b L σ) := by
  intro k
  induction k with
  | zero => intro b L σ; exact Ole_no _
  | succ k ih =>
    intro b L σ
    match b with
    | 0 =>
      refine Ole_eq (by rw [x_repeat]) (by rw [x_repeat]) ?_
      exact Ole_ob (f_signOf k _ _ _) (fun _ => Ole_ite (ih _ _ _) (Ole_ob (f_fail k _ _ _) (fun _ => Ole_rf _)))
    | 1 =>
      refine Ole_eq (by rw [x_repeat]) (by rw [x_repeat]) ?_
      exact Ole_ite (Ole_ite (ih _ _ _) (ih _ _ _)) (Ole_rf _)
    | 2 =>
      refine Ole_eq (by rw [x_repeat]) (by rw [x_repeat]) ?_
      exact Ole_ob (f_intOf k _ _ _ _) (fun _ => ih _ _ _)
    | 3 =>
      refine Ole_eq (by rw [x_repeat]) (by rw [x_repeat]) ?_
      exact Ole_ite (ih _ _ _) (Ole_ob (f_fail k _ _ _) (fun _ => Ole_rf _))
    | 4 =>
      refine Ole_eq (by rw [x_repeat]) (by rw [x_repeat]) ?_
      exact Ole_ite (Ole_ite (ih _ _ _) (ih _ _ _)) (Ole_rf _)
    | 5 =>
      refine Ole_eq (by rw [x_repeat]) (by rw [x_repeat]) ?_
      exact Ole_ite (ih _ _ _) (Ole_ite (Ole_rf _) (Ole_ite (Ole_ite (ih _ _ _) (Ole_rf _)) (Ole_rf _)))
    | 6 =>
      refine Ole_eq (by rw [x_repeat]) (by rw [x_repeat]) ?_
      exact ih _ _ _
    | 7 =>
      refine Ole_eq (by rw [x_repeat]) (by rw [x_repeat]) ?_
      exact Ole_ob (f_stringOf__51 k _ _ _) (fun _ => Ole_rf _)
    | 8 =>
      refine Ole_eq (by rw [x_repeat]) (by rw [x_repeat]) ?_
      exact ih _ _ _
    | 9 =>
      refine Ole_eq (by rw [x_repeat]) (by rw [x_repeat]) ?_
      exact Ole_ite (ih _ _ _) (Ole_ite (Ole_rf _) (Ole_ite (Ole_ob (f_push k _ _ _) (fun _ => ih _ _ _)) (Ole_rf _)))
    | 10 =>
      refine Ole_eq (by rw [x_repeat]) (by rw [x_repeat]) ?_
      exact Ole_ob (f_tupleOf k _ _ _) (fun _ => Ole_rf _)
    | b + 11 =>
      refine Ole_eq (by rw [x_repeat]) (by rw [x_repeat]) (Ole_no _)
theorem f_rowsTimes : ∀ (k b : Nat) (L : Nat → Int32) (J : Nat → Int64) (σ : MS), Ole (x_rowsTimes k b L J σ) (x_rowsTimes (k + 1) b L J σ) := by
  intro k
  induction k with
  | zero => intro b L J σ; exact Ole_no _
  | succ k ih =>
    intro b L J σ
    match b with
    | 0 =>
      refine Ole_eq (by rw [x_rowsTimes]) (by rw [x_rowsTimes]) ?_
      exact ih _ _ _ _
    | 1 =>
      refine Ole_eq (by rw [x_rowsTimes]) (by rw [x_rowsTimes]) ?_
      exact ih _ _ _ _
    | 2 =>
      refine Ole_eq (by rw [x_rowsTimes]) (by rw [x_rowsTimes]) ?_
      exact Ole_ite (ih _ _ _ _) (Ole_ite (ih _ _ _ _) (Ole_rf _))
    | 3 =>
      refine Ole_eq (by rw [x_rowsTimes]) (by rw [x_rowsTimes]) ?_
      exact ih _ _ _ _
    | 4 =>
      refine Ole_eq (by rw [x_rowsTimes]) (by rw [x_rowsTimes]) ?_
      exact ih _ _ _ _
    | 5 =>
      refine Ole_eq (by rw [x_rowsTimes]) (by rw [x_rowsTimes]) ?_
      exact Ole_ite (ih _ _ _ _) (ih _ _ _ _)
    | 6 =>
      refine Ole_eq (by rw [x_rowsTimes]) (by rw [x_rowsTimes]) ?_
      exact Ole_ite (ih _ _ _ _) (Ole_ite (Ole_ite (Ole_ite (Ole_ite (ih _ _ _ _) (Ole_rf _)) (Ole_rf _)) (Ole_rf _)) (Ole_rf _))
    | 7 =>
      refine Ole_eq (by rw [x_rowsTimes]) (by rw [x_rowsTimes]) ?_
      exact ih _ _ _ _
    | 8 =>
      refine Ole_eq (by rw [x_rowsTimes]) (by rw [x_rowsTimes]) ?_
      exact Ole_ite (ih _ _ _ _) (Ole_rf _)
    | 9 =>
      refine Ole_eq (by rw [x_rowsTimes]) (by rw [x_rowsTimes]) ?_
      exact ih _ _ _ _
    | 10 =>
      refine Ole_eq (by rw [x_rowsTimes]) (by rw [x_rowsTimes]) ?_
      exact Ole_ite (ih _ _ _ _) (Ole_ite (Ole_ite (ih _ _ _ _) (ih _ _ _ _)) (Ole_rf _))
    | 11 =>
      refine Ole_eq (by rw [x_rowsTimes]) (by rw [x_rowsTimes]) ?_
      exact Ole_rf _
    | b + 12 =>
      refine Ole_eq (by rw [x_rowsTimes]) (by rw [x_rowsTimes]) (Ole_no _)
theorem f_raise : ∀ (k b : Nat) (L : Nat → Int32) (σ : MS), Ole (x_raise k b L σ) (x_raise (k + 1) b L σ) := by
  intro k
  induction k with
  | zero => intro b L σ; exact Ole_no _
  | succ k ih =>
    intro b L σ
    match b with
    | 0 =>
      refine Ole_eq (by rw [x_raise]) (by rw [x_raise]) ?_
      exact Ole_ob (f_signOf k _ _ _) (fun _ => Ole_ite (ih _ _ _) (Ole_ob (f_fail k _ _ _) (fun _ => Ole_rf _)))
    | 1 =>
      refine Ole_eq (by rw [x_raise]) (by rw [x_raise]) ?_
      exact Ole_ob (f_intOf k _ _ _ _) (fun _ => Ole_ite (Ole_ob (f_small k _ _ _) (fun _ => Ole_rf _)) (ih _ _ _))
    | 2 =>
      refine Ole_eq (by rw [x_raise]) (by rw [x_raise]) ?_
      exact Ole_ite (Ole_ite (ih _ _ _) (Ole_ite (Ole_ite (ih _ _ _) (ih _ _ _)) (Ole_rf _))) (Ole_rf _)
    | 3 =>
      refine Ole_eq (by rw [x_raise]) (by rw [x_raise]) ?_
      exact ih _ _ _
    | 4 =>
      refine Ole_eq (by rw [x_raise]) (by rw [x_raise]) ?_
      exact Ole_ite (Ole_ite (ih _ _ _) (Ole_ite (Ole_ite (Ole_ite (Ole_ite (ih _ _ _) (ih _ _ _)) (Ole_rf _)) (ih _ _ _)) (Ole_rf _))) (Ole_rf _)
    | 5 =>
      refine Ole_eq (by rw [x_raise]) (by rw [x_raise]) ?_
      exact Ole_ob (f_signOf k _ _ _) (fun _ => Ole_ite (ih _ _ _) (Ole_ite (ih _ _ _) (ih _ _ _)))
    | 6 =>
      refine Ole_eq (by rw [x_raise]) (by rw [x_raise]) ?_
      exact ih _ _ _
    | 7 =>
      refine Ole_eq (by rw [x_raise]) (by rw [x_raise]) ?_
      exact Ole_ob (f_small k _ _ _) (fun _ => ih _ _ _)
    | 8 =>
      refine Ole_eq (by rw [x_raise]) (by rw [x_raise]) ?_
      exact Ole_rf _
    | 9 =>
      refine Ole_eq (by rw [x_raise]) (by rw [x_raise]) ?_
      exact Ole_ob (f_loadA k _ _ _) (fun _ => ih _ _ _)
    | 10 =>
      refine Ole_eq (by rw [x_raise]) (by rw [x_raise]) ?_
      exact Ole_ite (ih _ _ _) (Ole_ite (Ole_ite (ih _ _ _) (Ole_rf _)) (Ole_rf _))
    | 11 =>
      refine Ole_eq (by rw [x_raise]) (by rw [x_raise]) ?_
      exact ih _ _ _
    | 12 =>
      refine Ole_eq (by rw [x_raise]) (by rw [x_raise]) ?_
      exact ih _ _ _
    | 13 =>
      refine Ole_eq (by rw [x_raise]) (by rw [x_raise]) ?_
      exact Ole_ite (ih _ _ _) (Ole_ite (Ole_ob (f_rowsTimes k _ _ _ _) (fun _ => Ole_ite (ih _ _ _) (Ole_ob (f_fail k _ _ _) (fun _ => ih _ _ _)))) (ih _ _ _))
    | 14 =>
      refine Ole_eq (by rw [x_raise]) (by rw [x_raise]) ?_
      exact ih _ _ _
    | 15 =>
      refine Ole_eq (by rw [x_raise]) (by rw [x_raise]) ?_
      exact Ole_ite (ih _ _ _) (Ole_ite (Ole_ite (ih _ _ _) (Ole_rf _)) (Ole_rf _))
    | 16 =>
      refine Ole_eq (by rw [x_raise]) (by rw [x_raise]) ?_
      exact ih _ _ _
    | 17 =>
      refine Ole_eq (by rw [x_raise]) (by rw [x_raise]) ?_
      exact ih _ _ _
    | 18 =>
      refine Ole_eq (by rw [x_raise]) (by rw [x_raise]) ?_
      exact Ole_ite (ih _ _ _) (Ole_rf _)
    | 19 =>
      refine Ole_eq (by rw [x_raise]) (by rw [x_raise]) ?_
      exact ih _ _ _
    | 20 =>
      refine Ole_eq (by rw [x_raise]) (by rw [x_raise]) ?_
      exact ih _ _ _
    | 21 =>
      refine Ole_eq (by rw [x_raise]) (by rw [x_raise]) ?_
      exact Ole_ite (ih _ _ _) (Ole_ite (Ole_ite (ih _ _ _) (Ole_rf _)) (Ole_rf _))
    | 22 =>
      refine Ole_eq (by rw [x_raise]) (by rw [x_raise]) ?_
      exact ih _ _ _
    | 23 =>
      refine Ole_eq (by rw [x_raise]) (by rw [x_raise]) ?_
      exact Ole_ob (f_signOf k _ _ _) (fun _ => Ole_ite (ih _ _ _) (Ole_ite (ih _ _ _) (ih _ _ _)))
    | 24 =>
      refine Ole_eq (by rw [x_raise]) (by rw [x_raise]) ?_
      exact ih _ _ _
    | 25 =>
      refine Ole_eq (by rw [x_raise]) (by rw [x_raise]) ?_
      exact Ole_ob (f_wholeOf k _ _ _) (fun _ => Ole_rf _)
    | b + 26 =>
      refine Ole_eq (by rw [x_raise]) (by rw [x_raise]) (Ole_no _)
theorem f_compareRows__46__43 : ∀ (k b : Nat) (L : Nat → Int32) (σ : MS), Ole (x_compareRows__46__43 k b L σ) (x_compareRows__46__43 (k + 1) b L σ) := by
  intro k
  induction k with
  | zero => intro b L σ; exact Ole_no _
  | succ k ih =>
    intro b L σ
    match b with
    | 0 =>
      refine Ole_eq (by rw [x_compareRows__46__43]) (by rw [x_compareRows__46__43]) ?_
      exact ih _ _ _
    | 1 =>
      refine Ole_eq (by rw [x_compareRows__46__43]) (by rw [x_compareRows__46__43]) ?_
      exact Ole_ite (ih _ _ _) (Ole_ite (Ole_ite (Ole_ite (ih _ _ _) (Ole_rf _)) (Ole_rf _)) (ih _ _ _))
    | 2 =>
      refine Ole_eq (by rw [x_compareRows__46__43]) (by rw [x_compareRows__46__43]) ?_
      exact Ole_rf _
    | b + 3 =>
      refine Ole_eq (by rw [x_compareRows__46__43]) (by rw [x_compareRows__46__43]) (Ole_no _)
theorem f_divideRows : ∀ (k b : Nat) (L : Nat → Int32) (σ : MS), Ole (x_divideRows k b L σ) (x_divideRows (k + 1) b L σ) := by
  intro k
  induction k with
  | zero => intro b L σ; exact Ole_no _
  | succ k ih =>
    intro b L σ
    match b with
    | 0 =>
      refine Ole_eq (by rw [x_divideRows]) (by rw [x_divideRows]) ?_
      exact ih _ _ _
    | 1 =>
      refine Ole_eq (by rw [x_divideRows]) (by rw [x_divideRows]) ?_
      exact ih _ _ _
    | 2 =>
      refine Ole_eq (by rw [x_divideRows]) (by rw [x_divideRows]) ?_
      exact ih _ _ _
    | 3 =>
      refine Ole_eq (by rw [x_divideRows]) (by rw [x_divideRows]) ?_
      exact Ole_ite (ih _ _ _) (Ole_ite (ih _ _ _) (Ole_rf _))
    | 4 =>
      refine Ole_eq (by rw [x_divideRows]) (by rw [x_divideRows]) ?_
      exact ih _ _ _
    | 5 =>
      refine Ole_eq (by rw [x_divideRows]) (by rw [x_divideRows]) ?_
      exact ih _ _ _
    | 6 =>
      refine Ole_eq (by rw [x_divideRows]) (by rw [x_divideRows]) ?_
      exact Ole_ite (ih _ _ _) (Ole_ite (ih _ _ _) (Ole_rf _))
    | 7 =>
      refine Ole_eq (by rw [x_divideRows]) (by rw [x_divideRows]) ?_
      exact Ole_ite (ih _ _ _) (Ole_ite (Ole_ite (ih _ _ _) (Ole_rf _)) (Ole_rf _))
    | 8 =>
      refine Ole_eq (by rw [x_divideRows]) (by rw [x_divideRows]) ?_
      exact ih _ _ _
    | 9 =>
      refine Ole_eq (by rw [x_divideRows]) (by rw [x_divideRows]) ?_
      exact Ole_ite (ih _ _ _) (Ole_ite (ih _ _ _) (Ole_rf _))
    | 10 =>
      refine Ole_eq (by rw [x_divideRows]) (by rw [x_divideRows]) ?_
      exact ih _ _ _
    | 11 =>
      refine Ole_eq (by rw [x_divideRows]) (by rw [x_divideRows]) ?_
      exact Ole_ob (f_compareRows__46__43 k _ _ _) (fun _ => Ole_ite (ih _ _ _) (ih _ _ _))
    | 12 =>
      refine Ole_eq (by rw [x_divideRows]) (by rw [x_divideRows]) ?_
      exact Ole_ite (ih _ _ _) (Ole_ite (Ole_ite (ih _ _ _) (Ole_ite (ih _ _ _) (Ole_rf _))) (Ole_rf _))
    | 13 =>
      refine Ole_eq (by rw [x_divideRows]) (by rw [x_divideRows]) ?_
      exact ih _ _ _
    | 14 =>
      refine Ole_eq (by rw [x_divideRows]) (by rw [x_divideRows]) ?_
      exact Ole_ite (ih _ _ _) (ih _ _ _)
    | 15 =>
      refine Ole_eq (by rw [x_divideRows]) (by rw [x_divideRows]) ?_
      exact ih _ _ _
    | 16 =>
      refine Ole_eq (by rw [x_divideRows]) (by rw [x_divideRows]) ?_
      exact Ole_ite (ih _ _ _) (Ole_rf _)
    | 17 =>
      refine Ole_eq (by rw [x_divideRows]) (by rw [x_divideRows]) ?_
      exact ih _ _ _
    | 18 =>
      refine Ole_eq (by rw [x_divideRows]) (by rw [x_divideRows]) ?_
      exact Ole_ite (ih _ _ _) (Ole_ite (Ole_ite (ih _ _ _) (ih _ _ _)) (Ole_rf _))
    | 19 =>
      refine Ole_eq (by rw [x_divideRows]) (by rw [x_divideRows]) ?_
      exact Ole_ite (Ole_ite (ih _ _ _) (Ole_rf _)) (Ole_rf _)
    | 20 =>
      refine Ole_eq (by rw [x_divideRows]) (by rw [x_divideRows]) ?_
      exact ih _ _ _
    | 21 =>
      refine Ole_eq (by rw [x_divideRows]) (by rw [x_divideRows]) ?_
      exact Ole_rf _
    | b + 22 =>
      refine Ole_eq (by rw [x_divideRows]) (by rw [x_divideRows]) (Ole_no _)
theorem f_divide : ∀ (k b : Nat) (L : Nat → Int32) (σ : MS), Ole (x_divide k b L σ) (x_divide (k + 1) b L σ) := by
  intro k
  induction k with
  | zero => intro b L σ; exact Ole_no _
  | succ k ih =>
    intro b L σ
    match b with
    | 0 =>
      refine Ole_eq (by rw [x_divide]) (by rw [x_divide]) ?_
      exact Ole_ob (f_signOf k _ _ _) (fun _ => Ole_ite (Ole_ob (f_fail k _ _ _) (fun _ => Ole_rf _)) (ih _ _ _))
    | 1 =>
      refine Ole_eq (by rw [x_divide]) (by rw [x_divide]) ?_
      exact Ole_ob (f_loadA k _ _ _) (fun _ => Ole_ob (f_loadB k _ _ _) (fun _ => Ole_ob (f_divideRows k _ _ _) (fun _ => Ole_ob (f_signOf k _ _ _) (fun _ => Ole_ite (ih _ _ _) (Ole_ite (ih _ _ _) (ih _ _ _))))))
    | 2 =>
      refine Ole_eq (by rw [x_divide]) (by rw [x_divide]) ?_
      exact ih _ _ _
    | 3 =>
      refine Ole_eq (by rw [x_divide]) (by rw [x_divide]) ?_
      exact Ole_ite (ih _ _ _) (Ole_ite (ih _ _ _) (ih _ _ _))
    | 4 =>
      refine Ole_eq (by rw [x_divide]) (by rw [x_divide]) ?_
      exact ih _ _ _
    | 5 =>
      refine Ole_eq (by rw [x_divide]) (by rw [x_divide]) ?_
      exact ih _ _ _
    | 6 =>
      refine Ole_eq (by rw [x_divide]) (by rw [x_divide]) ?_
      exact ih _ _ _
    | 7 =>
      refine Ole_eq (by rw [x_divide]) (by rw [x_divide]) ?_
      exact Ole_ite (ih _ _ _) (Ole_ite (ih _ _ _) (Ole_ite (ih _ _ _) (Ole_rf _)))
    | 8 =>
      refine Ole_eq (by rw [x_divide]) (by rw [x_divide]) ?_
      exact ih _ _ _
    | 9 =>
      refine Ole_eq (by rw [x_divide]) (by rw [x_divide]) ?_
      exact Ole_ite (ih _ _ _) (Ole_ite (ih _ _ _) (Ole_rf _))
    | 10 =>
      refine Ole_eq (by rw [x_divide]) (by rw [x_divide]) ?_
      exact ih _ _ _
    | 11 =>
      refine Ole_eq (by rw [x_divide]) (by rw [x_divide]) ?_
      exact Ole_ite (ih _ _ _) (Ole_ite (ih _ _ _) (ih _ _ _))
    | 12 =>
      refine Ole_eq (by rw [x_divide]) (by rw [x_divide]) ?_
      exact ih _ _ _
    | 13 =>
      refine Ole_eq (by rw [x_divide]) (by rw [x_divide]) ?_
      exact Ole_ite (ih _ _ _) (Ole_rf _)
    | 14 =>
      refine Ole_eq (by rw [x_divide]) (by rw [x_divide]) ?_
      exact ih _ _ _
    | 15 =>
      refine Ole_eq (by rw [x_divide]) (by rw [x_divide]) ?_
      exact Ole_ob (f_wholeOf k _ _ _) (fun _ => Ole_rf _)
    | 16 =>
      refine Ole_eq (by rw [x_divide]) (by rw [x_divide]) ?_
      exact ih _ _ _
    | 17 =>
      refine Ole_eq (by rw [x_divide]) (by rw [x_divide]) ?_
      exact Ole_ite (ih _ _ _) (ih _ _ _)
    | 18 =>
      refine Ole_eq (by rw [x_divide]) (by rw [x_divide]) ?_
      exact ih _ _ _
    | 19 =>
      refine Ole_eq (by rw [x_divide]) (by rw [x_divide]) ?_
      exact ih _ _ _
    | 20 =>
      refine Ole_eq (by rw [x_divide]) (by rw [x_divide]) ?_
      exact Ole_ite (ih _ _ _) (Ole_ite (Ole_ite (ih _ _ _) (Ole_rf _)) (Ole_rf _))
    | 21 =>
      refine Ole_eq (by rw [x_divide]) (by rw [x_divide]) ?_
      exact ih _ _ _
    | 22 =>
      refine Ole_eq (by rw [x_divide]) (by rw [x_divide]) ?_
      exact Ole_ite (ih _ _ _) (Ole_ite (ih _ _ _) (Ole_rf _))
    | 23 =>
      refine Ole_eq (by rw [x_divide]) (by rw [x_divide]) ?_
      exact ih _ _ _
    | 24 =>
      refine Ole_eq (by rw [x_divide]) (by rw [x_divide]) ?_
      exact Ole_ob (f_signOf k _ _ _) (fun _ => Ole_ob (f_signOf k _ _ _) (fun _ => Ole_ob (f_wholeOf k _ _ _) (fun _ => Ole_rf _)))
    | b + 25 =>
      refine Ole_eq (by rw [x_divide]) (by rw [x_divide]) (Ole_no _)
theorem f_isIn : ∀ (k b : Nat) (L : Nat → Int32) (σ : MS), Ole (x_isIn k b L σ) (x_isIn (k + 1) b L σ) := by
  intro k
  induction k with
  | zero => intro b L σ; exact Ole_no _
  | succ k ih =>
    intro b L σ
    match b with
    | 0 =>
      refine Ole_eq (by rw [x_isIn]) (by rw [x_isIn]) ?_
      exact Ole_ob (f_kind k _ _ _) (fun _ => Ole_ite (Ole_ite (ih _ _ _) (Ole_ob (f_has k _ _ _) (fun _ => Ole_ite (ih _ _ _) (ih _ _ _)))) (ih _ _ _))
    | 1 =>
      refine Ole_eq (by rw [x_isIn]) (by rw [x_isIn]) ?_
      exact ih _ _ _
    | 2 =>
      refine Ole_eq (by rw [x_isIn]) (by rw [x_isIn]) ?_
      exact Ole_ob (f_truth k _ _ _) (fun _ => Ole_rf _)
    | 3 =>
      refine Ole_eq (by rw [x_isIn]) (by rw [x_isIn]) ?_
      exact Ole_ite (ih _ _ _) (ih _ _ _)
    | 4 =>
      refine Ole_eq (by rw [x_isIn]) (by rw [x_isIn]) ?_
      exact Ole_ite (Ole_ite (ih _ _ _) (Ole_ite (ih _ _ _) (Ole_ite (Ole_ite (Ole_ob (f_compare k _ _ _) (fun _ => Ole_ite (ih _ _ _) (ih _ _ _))) (Ole_rf _)) (ih _ _ _)))) (Ole_rf _)
    | 5 =>
      refine Ole_eq (by rw [x_isIn]) (by rw [x_isIn]) ?_
      exact ih _ _ _
    | 6 =>
      refine Ole_eq (by rw [x_isIn]) (by rw [x_isIn]) ?_
      exact ih _ _ _
    | 7 =>
      refine Ole_eq (by rw [x_isIn]) (by rw [x_isIn]) ?_
      exact ih _ _ _
    | 8 =>
      refine Ole_eq (by rw [x_isIn]) (by rw [x_isIn]) ?_
      exact Ole_ob (f_truth k _ _ _) (fun _ => Ole_rf _)
    | 9 =>
      refine Ole_eq (by rw [x_isIn]) (by rw [x_isIn]) ?_
      exact Ole_ite (Ole_ob (f_kind k _ _ _) (fun _ => Ole_ite (ih _ _ _) (ih _ _ _))) (ih _ _ _)
    | 10 =>
      refine Ole_eq (by rw [x_isIn]) (by rw [x_isIn]) ?_
      exact Ole_ob (f_wrongKind k _ _ _) (fun _ => Ole_rf _)
    | 11 =>
      refine Ole_eq (by rw [x_isIn]) (by rw [x_isIn]) ?_
      exact ih _ _ _
    | 12 =>
      refine Ole_eq (by rw [x_isIn]) (by rw [x_isIn]) ?_
      exact Ole_ite (Ole_ite (Ole_ite (ih _ _ _) (Ole_ite (ih _ _ _) (ih _ _ _))) (Ole_rf _)) (Ole_rf _)
    | 13 =>
      refine Ole_eq (by rw [x_isIn]) (by rw [x_isIn]) ?_
      exact Ole_ite (Ole_ite (ih _ _ _) (Ole_ite (ih _ _ _) (Ole_ite (Ole_ite (Ole_ite (ih _ _ _) (ih _ _ _)) (Ole_rf _)) (Ole_rf _)))) (Ole_rf _)
    | 14 =>
      refine Ole_eq (by rw [x_isIn]) (by rw [x_isIn]) ?_
      exact ih _ _ _
    | 15 =>
      refine Ole_eq (by rw [x_isIn]) (by rw [x_isIn]) ?_
      exact ih _ _ _
    | 16 =>
      refine Ole_eq (by rw [x_isIn]) (by rw [x_isIn]) ?_
      exact ih _ _ _
    | 17 =>
      refine Ole_eq (by rw [x_isIn]) (by rw [x_isIn]) ?_
      exact Ole_ob (f_truth k _ _ _) (fun _ => Ole_rf _)
    | b + 18 =>
      refine Ole_eq (by rw [x_isIn]) (by rw [x_isIn]) (Ole_no _)
theorem f_isSubset : ∀ (k b : Nat) (L : Nat → Int32) (σ : MS), Ole (x_isSubset k b L σ) (x_isSubset (k + 1) b L σ) := by
  intro k
  induction k with
  | zero => intro b L σ; exact Ole_no _
  | succ k ih =>
    intro b L σ
    match b with
    | 0 =>
      refine Ole_eq (by rw [x_isSubset]) (by rw [x_isSubset]) ?_
      exact ih _ _ _
    | 1 =>
      refine Ole_eq (by rw [x_isSubset]) (by rw [x_isSubset]) ?_
      exact Ole_ite (Ole_ite (ih _ _ _) (Ole_ite (ih _ _ _) (Ole_ite (Ole_ob (f_has k _ _ _) (fun _ => ih _ _ _)) (Ole_rf _)))) (Ole_rf _)
    | 2 =>
      refine Ole_eq (by rw [x_isSubset]) (by rw [x_isSubset]) ?_
      exact Ole_ite (Ole_rf _) (Ole_rf _)
    | b + 3 =>
      refine Ole_eq (by rw [x_isSubset]) (by rw [x_isSubset]) (Ole_no _)
theorem f_operate : ∀ (k b : Nat) (L : Nat → Int32) (σ : MS), Ole (x_operate k b L σ) (x_operate (k + 1) b L σ) := by
  intro k
  induction k with
  | zero => intro b L σ; exact Ole_no _
  | succ k ih =>
    intro b L σ
    match b with
    | 0 =>
      refine Ole_eq (by rw [x_operate]) (by rw [x_operate]) ?_
      exact Ole_ob (f_kind k _ _ _) (fun _ => Ole_ob (f_kind k _ _ _) (fun _ => Ole_ite (Ole_ite (ih _ _ _) (ih _ _ _)) (ih _ _ _)))
    | 1 =>
      refine Ole_eq (by rw [x_operate]) (by rw [x_operate]) ?_
      exact ih _ _ _
    | 2 =>
      refine Ole_eq (by rw [x_operate]) (by rw [x_operate]) ?_
      exact Ole_ite (ih _ _ _) (Ole_ite (ih _ _ _) (Ole_ite (ih _ _ _) (Ole_ite (ih _ _ _) (Ole_ite (ih _ _ _) (Ole_ite (ih _ _ _) (Ole_ite (ih _ _ _) (Ole_ite (ih _ _ _) (Ole_ite (ih _ _ _) (Ole_ite (ih _ _ _) (Ole_ite (ih _ _ _) (ih _ _ _)))))))))))
    | 3 =>
      refine Ole_eq (by rw [x_operate]) (by rw [x_operate]) ?_
      exact Ole_ob (f_plus k _ _ _) (fun _ => Ole_rf _)
    | 4 =>
      refine Ole_eq (by rw [x_operate]) (by rw [x_operate]) ?_
      exact Ole_ite (ih _ _ _) (Ole_ob (f_add k _ _ _) (fun _ => Ole_rf _))
    | 5 =>
      refine Ole_eq (by rw [x_operate]) (by rw [x_operate]) ?_
      exact Ole_ite (Ole_ite (Ole_ob (f_sift k _ _ _) (fun _ => ih _ _ _)) (ih _ _ _)) (ih _ _ _)
    | 6 =>
      refine Ole_eq (by rw [x_operate]) (by rw [x_operate]) ?_
      exact Ole_ob (f_wrongKind k _ _ _) (fun _ => ih _ _ _)
    | 7 =>
      refine Ole_eq (by rw [x_operate]) (by rw [x_operate]) ?_
      exact Ole_rf _
    | 8 =>
      refine Ole_eq (by rw [x_operate]) (by rw [x_operate]) ?_
      exact Ole_ite (ih _ _ _) (Ole_ob (f_multiply k _ _ _ _) (fun _ => Ole_rf _))
    | 9 =>
      refine Ole_eq (by rw [x_operate]) (by rw [x_operate]) ?_
      exact Ole_ite (Ole_ite (Ole_ob (f_sift k _ _ _) (fun _ => Ole_rf _)) (ih _ _ _)) (ih _ _ _)
    | 10 =>
      refine Ole_eq (by rw [x_operate]) (by rw [x_operate]) ?_
      exact Ole_ite (ih _ _ _) (Ole_ite (ih _ _ _) (ih _ _ _))
    | 11 =>
      refine Ole_eq (by rw [x_operate]) (by rw [x_operate]) ?_
      exact Ole_ite (Ole_ob (f_repeat k _ _ _) (fun _ => ih _ _ _)) (ih _ _ _)
    | 12 =>
      refine Ole_eq (by rw [x_operate]) (by rw [x_operate]) ?_
      exact Ole_ob (f_wrongKind k _ _ _) (fun _ => ih _ _ _)
    | 13 =>
      refine Ole_eq (by rw [x_operate]) (by rw [x_operate]) ?_
      exact Ole_rf _
    | 14 =>
      refine Ole_eq (by rw [x_operate]) (by rw [x_operate]) ?_
      exact Ole_ite (ih _ _ _) (Ole_ob (f_raise k _ _ _) (fun _ => ih _ _ _))
    | 15 =>
      refine Ole_eq (by rw [x_operate]) (by rw [x_operate]) ?_
      exact Ole_ob (f_wrongKind k _ _ _) (fun _ => ih _ _ _)
    | 16 =>
      refine Ole_eq (by rw [x_operate]) (by rw [x_operate]) ?_
      exact Ole_rf _
    | 17 =>
      refine Ole_eq (by rw [x_operate]) (by rw [x_operate]) ?_
      exact Ole_ob (f_compare k _ _ _) (fun _ => Ole_ite (ih _ _ _) (ih _ _ _))
    | 18 =>
      refine Ole_eq (by rw [x_operate]) (by rw [x_operate]) ?_
      exact ih _ _ _
    | 19 =>
      refine Ole_eq (by rw [x_operate]) (by rw [x_operate]) ?_
      exact Ole_ob (f_truth k _ _ _) (fun _ => Ole_rf _)
    | 20 =>
      refine Ole_eq (by rw [x_operate]) (by rw [x_operate]) ?_
      exact Ole_ob (f_compare k _ _ _) (fun _ => Ole_ite (ih _ _ _) (ih _ _ _))
    | 21 =>
      refine Ole_eq (by rw [x_operate]) (by rw [x_operate]) ?_
      exact ih _ _ _
    | 22 =>
      refine Ole_eq (by rw [x_operate]) (by rw [x_operate]) ?_
      exact Ole_ob (f_truth k _ _ _) (fun _ => Ole_rf _)
    | 23 =>
      refine Ole_eq (by rw [x_operate]) (by rw [x_operate]) ?_
      exact Ole_ite (ih _ _ _) (Ole_ob (f_divide k _ _ _) (fun _ => ih _ _ _))
    | 24 =>
      refine Ole_eq (by rw [x_operate]) (by rw [x_operate]) ?_
      exact Ole_ob (f_wrongKind k _ _ _) (fun _ => ih _ _ _)
    | 25 =>
      refine Ole_eq (by rw [x_operate]) (by rw [x_operate]) ?_
      exact Ole_rf _
    | 26 =>
      refine Ole_eq (by rw [x_operate]) (by rw [x_operate]) ?_
      exact Ole_ite (ih _ _ _) (Ole_ob (f_divide k _ _ _) (fun _ => ih _ _ _))
    | 27 =>
      refine Ole_eq (by rw [x_operate]) (by rw [x_operate]) ?_
      exact Ole_ob (f_wrongKind k _ _ _) (fun _ => ih _ _ _)
    | 28 =>
      refine Ole_eq (by rw [x_operate]) (by rw [x_operate]) ?_
      exact Ole_rf _
    | 29 =>
      refine Ole_eq (by rw [x_operate]) (by rw [x_operate]) ?_
      exact Ole_ob (f_isIn k _ _ _) (fun _ => Ole_rf _)
    | 30 =>
      refine Ole_eq (by rw [x_operate]) (by rw [x_operate]) ?_
      exact Ole_ob (f_isIn k _ _ _) (fun _ => Ole_ite (ih _ _ _) (ih _ _ _))
    | 31 =>
      refine Ole_eq (by rw [x_operate]) (by rw [x_operate]) ?_
      exact ih _ _ _
    | 32 =>
      refine Ole_eq (by rw [x_operate]) (by rw [x_operate]) ?_
      exact Ole_ob (f_truth k _ _ _) (fun _ => Ole_rf _)
    | 33 =>
      refine Ole_eq (by rw [x_operate]) (by rw [x_operate]) ?_
      exact Ole_ite (Ole_ite (Ole_ob (f_isSubset k _ _ _) (fun _ => Ole_ob (f_truth k _ _ _) (fun _ => ih _ _ _))) (ih _ _ _)) (ih _ _ _)
    | 34 =>
      refine Ole_eq (by rw [x_operate]) (by rw [x_operate]) ?_
      exact Ole_ob (f_wrongKind k _ _ _) (fun _ => ih _ _ _)
    | 35 =>
      refine Ole_eq (by rw [x_operate]) (by rw [x_operate]) ?_
      exact Ole_rf _
    | 36 =>
      refine Ole_eq (by rw [x_operate]) (by rw [x_operate]) ?_
      exact Ole_ite (Ole_ite (Ole_ite (ih _ _ _) (ih _ _ _)) (ih _ _ _)) (ih _ _ _)
    | 37 =>
      refine Ole_eq (by rw [x_operate]) (by rw [x_operate]) ?_
      exact Ole_ob (f_wrongKind k _ _ _) (fun _ => Ole_rf _)
    | 38 =>
      refine Ole_eq (by rw [x_operate]) (by rw [x_operate]) ?_
      exact Ole_ob (f_compare k _ _ _) (fun _ => Ole_ite (Ole_ite (ih _ _ _) (ih _ _ _)) (ih _ _ _))
    | 39 =>
      refine Ole_eq (by rw [x_operate]) (by rw [x_operate]) ?_
      exact ih _ _ _
    | 40 =>
      refine Ole_eq (by rw [x_operate]) (by rw [x_operate]) ?_
      exact Ole_ite (Ole_ite (ih _ _ _) (ih _ _ _)) (ih _ _ _)
    | 41 =>
      refine Ole_eq (by rw [x_operate]) (by rw [x_operate]) ?_
      exact ih _ _ _
    | 42 =>
      refine Ole_eq (by rw [x_operate]) (by rw [x_operate]) ?_
      exact Ole_ite (Ole_ite (ih _ _ _) (ih _ _ _)) (ih _ _ _)
    | 43 =>
      refine Ole_eq (by rw [x_operate]) (by rw [x_operate]) ?_
      exact ih _ _ _
    | 44 =>
      refine Ole_eq (by rw [x_operate]) (by rw [x_operate]) ?_
      exact Ole_ite (ih _ _ _) (ih _ _ _)
    | 45 =>
      refine Ole_eq (by rw [x_operate]) (by rw [x_operate]) ?_
      exact ih _ _ _
    | 46 =>
      refine Ole_eq (by rw [x_operate]) (by rw [x_operate]) ?_
      exact Ole_ob (f_truth k _ _ _) (fun _ => Ole_rf _)
    | b + 47 =>
      refine Ole_eq (by rw [x_operate]) (by rw [x_operate]) (Ole_no _)
theorem f_reduce : ∀ (k b : Nat) (L : Nat → Int32) (σ : MS), Ole (x_reduce k b L σ) (x_reduce (k + 1) b L σ) := by
  intro k
  induction k with
  | zero => intro b L σ; exact Ole_no _
  | succ k ih =>
    intro b L σ
    match b with
    | 0 =>
      refine Ole_eq (by rw [x_reduce]) (by rw [x_reduce]) ?_
      exact Ole_ob (f_kind k _ _ _) (fun _ => Ole_ite (ih _ _ _) (Ole_ite (ih _ _ _) (Ole_ob (f_wrongKind k _ _ _) (fun _ => Ole_rf _))))
    | 1 =>
      refine Ole_eq (by rw [x_reduce]) (by rw [x_reduce]) ?_
      exact Ole_ite (Ole_ite (Ole_rf _) (ih _ _ _)) (Ole_rf _)
    | 2 =>
      refine Ole_eq (by rw [x_reduce]) (by rw [x_reduce]) ?_
      exact Ole_ob (f_push k _ _ _) (fun _ => Ole_ite (Ole_ob (f_push k _ _ _) (fun _ => ih _ _ _)) (Ole_rf _))
    | 3 =>
      refine Ole_eq (by rw [x_reduce]) (by rw [x_reduce]) ?_
      exact Ole_ite (ih _ _ _) (Ole_ite (Ole_ob (f_sweep k _ _ _) (fun _ => Ole_ite (Ole_ite (Ole_ite (Ole_ite (ih _ _ _) (Ole_ite (ih _ _ _) (ih _ _ _))) (Ole_rf _)) (Ole_rf _)) (Ole_rf _))) (ih _ _ _))
    | 4 =>
      refine Ole_eq (by rw [x_reduce]) (by rw [x_reduce]) ?_
      exact Ole_ob (f_operate k _ _ _) (fun _ => Ole_ob (f_answer k _ _ _) (fun _ => ih _ _ _))
    | 5 =>
      refine Ole_eq (by rw [x_reduce]) (by rw [x_reduce]) ?_
      exact Ole_ob (f_operate k _ _ _) (fun _ => Ole_ite (ih _ _ _) (ih _ _ _))
    | 6 =>
      refine Ole_eq (by rw [x_reduce]) (by rw [x_reduce]) ?_
      exact ih _ _ _
    | 7 =>
      refine Ole_eq (by rw [x_reduce]) (by rw [x_reduce]) ?_
      exact Ole_ite (Ole_ite (ih _ _ _) (Ole_ite (ih _ _ _) (ih _ _ _))) (ih _ _ _)
    | 8 =>
      refine Ole_eq (by rw [x_reduce]) (by rw [x_reduce]) ?_
      exact Ole_ob (f_operate k _ _ _) (fun _ => Ole_ite (ih _ _ _) (ih _ _ _))
    | 9 =>
      refine Ole_eq (by rw [x_reduce]) (by rw [x_reduce]) ?_
      exact ih _ _ _
    | 10 =>
      refine Ole_eq (by rw [x_reduce]) (by rw [x_reduce]) ?_
      exact ih _ _ _
    | 11 =>
      refine Ole_eq (by rw [x_reduce]) (by rw [x_reduce]) ?_
      exact ih _ _ _
    | 12 =>
      refine Ole_eq (by rw [x_reduce]) (by rw [x_reduce]) ?_
      exact Ole_ite (ih _ _ _) (Ole_rf _)
    | 13 =>
      refine Ole_eq (by rw [x_reduce]) (by rw [x_reduce]) ?_
      exact ih _ _ _
    | 14 =>
      refine Ole_eq (by rw [x_reduce]) (by rw [x_reduce]) ?_
      exact ih _ _ _
    | 15 =>
      refine Ole_eq (by rw [x_reduce]) (by rw [x_reduce]) ?_
      exact Ole_ite (Ole_ite (ih _ _ _) (Ole_rf _)) (ih _ _ _)
    | 16 =>
      refine Ole_eq (by rw [x_reduce]) (by rw [x_reduce]) ?_
      exact ih _ _ _
    | 17 =>
      refine Ole_eq (by rw [x_reduce]) (by rw [x_reduce]) ?_
      exact Ole_rf _
    | b + 18 =>
      refine Ole_eq (by rw [x_reduce]) (by rw [x_reduce]) (Ole_no _)
theorem f_single : ∀ (k b : Nat) (L : Nat → Int32) (σ : MS), Ole (x_single k b L σ) (x_single (k + 1) b L σ) := by
  intro k
  induction k with
  | zero => intro b L σ; exact Ole_no _
  | succ k ih =>
    intro b L σ
    match b with
    | 0 =>
      refine Ole_eq (by rw [x_single]) (by rw [x_single]) ?_
      exact Ole_ite (Ole_ite (ih _ _ _) (Ole_ite (ih _ _ _) (Ole_ite (ih _ _ _) (Ole_ite (ih _ _ _) (ih _ _ _))))) (Ole_rf _)
    | 1 =>
      refine Ole_eq (by rw [x_single]) (by rw [x_single]) ?_
      exact Ole_ite (Ole_ob (f_function k _ _ _) (fun _ => Ole_rf _)) (Ole_rf _)
    | 2 =>
      refine Ole_eq (by rw [x_single]) (by rw [x_single]) ?_
      exact Ole_ob (f_negative k _ _ _) (fun _ => Ole_rf _)
    | 3 =>
      refine Ole_eq (by rw [x_single]) (by rw [x_single]) ?_
      exact Ole_ob (f_many k _ _ _) (fun _ => Ole_rf _)
    | 4 =>
      refine Ole_eq (by rw [x_single]) (by rw [x_single]) ?_
      exact Ole_ob (f_turned k _ _ _) (fun _ => Ole_rf _)
    | 5 =>
      refine Ole_eq (by rw [x_single]) (by rw [x_single]) ?_
      exact Ole_ite (Ole_ob (f_reduce k _ _ _) (fun _ => Ole_rf _)) (Ole_rf _)
    | b + 6 =>
      refine Ole_eq (by rw [x_single]) (by rw [x_single]) (Ole_no _)
theorem f_range : ∀ (k b : Nat) (L : Nat → Int32) (σ : MS), Ole (x_range k b L σ) (x_range (k + 1) b L σ) := by
  intro k
  induction k with
  | zero => intro b L σ; exact Ole_no _
  | succ k ih =>
    intro b L σ
    match b with
    | 0 =>
      refine Ole_eq (by rw [x_range]) (by rw [x_range]) ?_
      exact Ole_ob (f_pop k _ _ _) (fun _ => Ole_ite (ih _ _ _) (Ole_ob (f_pop k _ _ _) (fun _ => ih _ _ _)))
    | 1 =>
      refine Ole_eq (by rw [x_range]) (by rw [x_range]) ?_
      exact ih _ _ _
    | 2 =>
      refine Ole_eq (by rw [x_range]) (by rw [x_range]) ?_
      exact Ole_ob (f_pop k _ _ _) (fun _ => Ole_ob (f_kind k _ _ _) (fun _ => Ole_ite (Ole_ob (f_kind k _ _ _) (fun _ => Ole_ite (Ole_ite (ih _ _ _) (Ole_ob (f_kind k _ _ _) (fun _ => Ole_ite (ih _ _ _) (ih _ _ _)))) (ih _ _ _))) (ih _ _ _)))
    | 3 =>
      refine Ole_eq (by rw [x_range]) (by rw [x_range]) ?_
      exact Ole_ob (f_wrongKind k _ _ _) (fun _ => Ole_rf _)
    | 4 =>
      refine Ole_eq (by rw [x_range]) (by rw [x_range]) ?_
      exact Ole_ite (ih _ _ _) (Ole_ob (f_add k _ _ _) (fun _ => ih _ _ _))
    | 5 =>
      refine Ole_eq (by rw [x_range]) (by rw [x_range]) ?_
      exact Ole_ob (f_small k _ _ _) (fun _ => ih _ _ _)
    | 6 =>
      refine Ole_eq (by rw [x_range]) (by rw [x_range]) ?_
      exact Ole_ite (ih _ _ _) (ih _ _ _)
    | 7 =>
      refine Ole_eq (by rw [x_range]) (by rw [x_range]) ?_
      exact ih _ _ _
    | 8 =>
      refine Ole_eq (by rw [x_range]) (by rw [x_range]) ?_
      exact ih _ _ _
    | 9 =>
      refine Ole_eq (by rw [x_range]) (by rw [x_range]) ?_
      exact Ole_ite (ih _ _ _) (Ole_ob (f_compareWholes k _ _ _) (fun _ => Ole_ite (ih _ _ _) (ih _ _ _)))
    | 10 =>
      refine Ole_eq (by rw [x_range]) (by rw [x_range]) ?_
      exact ih _ _ _
    | 11 =>
      refine Ole_eq (by rw [x_range]) (by rw [x_range]) ?_
      exact Ole_ob (f_signOf k _ _ _) (fun _ => ih _ _ _)
    | 12 =>
      refine Ole_eq (by rw [x_range]) (by rw [x_range]) ?_
      exact Ole_ite (ih _ _ _) (ih _ _ _)
    | 13 =>
      refine Ole_eq (by rw [x_range]) (by rw [x_range]) ?_
      exact ih _ _ _
    | 14 =>
      refine Ole_eq (by rw [x_range]) (by rw [x_range]) ?_
      exact ih _ _ _
    | 15 =>
      refine Ole_eq (by rw [x_range]) (by rw [x_range]) ?_
      exact Ole_ite (Ole_ite (ih _ _ _) (Ole_ite (ih _ _ _) (Ole_ob (f_compareWholes k _ _ _) (fun _ => Ole_ite (ih _ _ _) (ih _ _ _))))) (ih _ _ _)
    | 16 =>
      refine Ole_eq (by rw [x_range]) (by rw [x_range]) ?_
      exact Ole_ob (f_compareWholes k _ _ _) (fun _ => Ole_ite (ih _ _ _) (ih _ _ _))
    | 17 =>
      refine Ole_eq (by rw [x_range]) (by rw [x_range]) ?_
      exact Ole_ob (f_push k _ _ _) (fun _ => Ole_ite (ih _ _ _) (Ole_ob (f_fail k _ _ _) (fun _ => ih _ _ _)))
    | 18 =>
      refine Ole_eq (by rw [x_range]) (by rw [x_range]) ?_
      exact Ole_ite (ih _ _ _) (Ole_ite (ih _ _ _) (ih _ _ _))
    | 19 =>
      refine Ole_eq (by rw [x_range]) (by rw [x_range]) ?_
      exact ih _ _ _
    | 20 =>
      refine Ole_eq (by rw [x_range]) (by rw [x_range]) ?_
      exact ih _ _ _
    | 21 =>
      refine Ole_eq (by rw [x_range]) (by rw [x_range]) ?_
      exact Ole_ob (f_add k _ _ _) (fun _ => Ole_ite (ih _ _ _) (ih _ _ _))
    | 22 =>
      refine Ole_eq (by rw [x_range]) (by rw [x_range]) ?_
      exact ih _ _ _
    | 23 =>
      refine Ole_eq (by rw [x_range]) (by rw [x_range]) ?_
      exact ih _ _ _
    | 24 =>
      refine Ole_eq (by rw [x_range]) (by rw [x_range]) ?_
      exact Ole_ite (ih _ _ _) (Ole_rf _)
    | 25 =>
      refine Ole_eq (by rw [x_range]) (by rw [x_range]) ?_
      exact Ole_ite (ih _ _ _) (Ole_ob (f_setOf k _ _ _) (fun _ => ih _ _ _))
    | 26 =>
      refine Ole_eq (by rw [x_range]) (by rw [x_range]) ?_
      exact Ole_ob (f_tupleOf k _ _ _) (fun _ => ih _ _ _)
    | 27 =>
      refine Ole_eq (by rw [x_range]) (by rw [x_range]) ?_
      exact Ole_rf _
    | b + 28 =>
      refine Ole_eq (by rw [x_range]) (by rw [x_range]) (Ole_no _)
theorem f_isOver : ∀ (k b : Nat) (L : Nat → Int32) (σ : MS), Ole (x_isOver k b L σ) (x_isOver (k + 1) b L σ) := by
  intro k
  induction k with
  | zero => intro b L σ; exact Ole_no _
  | succ k ih =>
    intro b L σ
    match b with
    | 0 =>
      refine Ole_eq (by rw [x_isOver]) (by rw [x_isOver]) ?_
      exact Ole_ite (ih _ _ _) (Ole_ite (ih _ _ _) (Ole_ite (ih _ _ _) (Ole_ite (ih _ _ _) (Ole_ite (ih _ _ _) (Ole_ite (ih _ _ _) (Ole_ite (ih _ _ _) (ih _ _ _)))))))
    | 1 =>
      refine Ole_eq (by rw [x_isOver]) (by rw [x_isOver]) ?_
      exact ih _ _ _
    | 2 =>
      refine Ole_eq (by rw [x_isOver]) (by rw [x_isOver]) ?_
      exact ih _ _ _
    | 3 =>
      refine Ole_eq (by rw [x_isOver]) (by rw [x_isOver]) ?_
      exact Ole_ite (Ole_rf _) (Ole_rf _)
    | b + 4 =>
      refine Ole_eq (by rw [x_isOver]) (by rw [x_isOver]) (Ole_no _)
theorem f_bindOne : ∀ (k b : Nat) (L : Nat → Int32) (σ : MS), Ole (x_bindOne k b L σ) (x_bindOne (k + 1) b L σ) := by
  intro k
  induction k with
  | zero => intro b L σ; exact Ole_no _
  | succ k ih =>
    intro b L σ
    match b with
    | 0 =>
      refine Ole_eq (by rw [x_bindOne]) (by rw [x_bindOne]) ?_
      exact Ole_ite (Ole_ite (Ole_ite (Ole_ite (ih _ _ _) (Ole_rf _)) (Ole_rf _)) (ih _ _ _)) (Ole_rf _)
    | 1 =>
      refine Ole_eq (by rw [x_bindOne]) (by rw [x_bindOne]) ?_
      exact Ole_ite (ih _ _ _) (Ole_ite (Ole_ite (ih _ _ _) (Ole_rf _)) (Ole_rf _))
    | 2 =>
      refine Ole_eq (by rw [x_bindOne]) (by rw [x_bindOne]) ?_
      exact Ole_ite (Ole_ite (Ole_ite (ih _ _ _) (Ole_rf _)) (Ole_rf _)) (Ole_rf _)
    | 3 =>
      refine Ole_eq (by rw [x_bindOne]) (by rw [x_bindOne]) ?_
      exact Ole_rf _
    | b + 4 =>
      refine Ole_eq (by rw [x_bindOne]) (by rw [x_bindOne]) (Ole_no _)
theorem f_clear : ∀ (k b : Nat) (L : Nat → Int32) (σ : MS), Ole (x_clear k b L σ) (x_clear (k + 1) b L σ) := by
  intro k
  induction k with
  | zero => intro b L σ; exact Ole_no _
  | succ k ih =>
    intro b L σ
    match b with
    | 0 =>
      refine Ole_eq (by rw [x_clear]) (by rw [x_clear]) ?_
      exact ih _ _ _
    | 1 =>
      refine Ole_eq (by rw [x_clear]) (by rw [x_clear]) ?_
      exact Ole_ite (ih _ _ _) (Ole_ite (ih _ _ _) (Ole_rf _))
    | 2 =>
      refine Ole_eq (by rw [x_clear]) (by rw [x_clear]) ?_
      exact Ole_ite (ih _ _ _) (Ole_ob (f_bindOne k _ _ _) (fun _ => Ole_ite (ih _ _ _) (Ole_rf _)))
    | 3 =>
      refine Ole_eq (by rw [x_clear]) (by rw [x_clear]) ?_
      exact Ole_ite (ih _ _ _) (Ole_rf _)
    | 4 =>
      refine Ole_eq (by rw [x_clear]) (by rw [x_clear]) ?_
      exact Ole_rf _
    | b + 5 =>
      refine Ole_eq (by rw [x_clear]) (by rw [x_clear]) (Ole_no _)
theorem f_bind : ∀ (k b : Nat) (L : Nat → Int32) (σ : MS), Ole (x_bind k b L σ) (x_bind (k + 1) b L σ) := by
  intro k
  induction k with
  | zero => intro b L σ; exact Ole_no _
  | succ k ih =>
    intro b L σ
    match b with
    | 0 =>
      refine Ole_eq (by rw [x_bind]) (by rw [x_bind]) ?_
      exact Ole_ite (Ole_ite (Ole_ite (Ole_ob (f_bindOne k _ _ _) (fun _ => Ole_rf _)) (Ole_rf _)) (ih _ _ _)) (Ole_rf _)
    | 1 =>
      refine Ole_eq (by rw [x_bind]) (by rw [x_bind]) ?_
      exact Ole_ite (ih _ _ _) (Ole_rf _)
    | 2 =>
      refine Ole_eq (by rw [x_bind]) (by rw [x_bind]) ?_
      exact Ole_ite (ih _ _ _) (Ole_ite (ih _ _ _) (Ole_rf _))
    | 3 =>
      refine Ole_eq (by rw [x_bind]) (by rw [x_bind]) ?_
      exact Ole_ob (f_kind k _ _ _) (fun _ => Ole_ite (Ole_ite (Ole_ite (ih _ _ _) (ih _ _ _)) (Ole_rf _)) (ih _ _ _))
    | 4 =>
      refine Ole_eq (by rw [x_bind]) (by rw [x_bind]) ?_
      exact Ole_ob (f_fail k _ _ _) (fun _ => Ole_rf _)
    | 5 =>
      refine Ole_eq (by rw [x_bind]) (by rw [x_bind]) ?_
      exact Ole_ite (ih _ _ _) (Ole_rf _)
    | 6 =>
      refine Ole_eq (by rw [x_bind]) (by rw [x_bind]) ?_
      exact Ole_ite (ih _ _ _) (Ole_ite (Ole_ite (ih _ _ _) (Ole_ite (ih _ _ _) (Ole_rf _))) (Ole_rf _))
    | 7 =>
      refine Ole_eq (by rw [x_bind]) (by rw [x_bind]) ?_
      exact ih _ _ _
    | 8 =>
      refine Ole_eq (by rw [x_bind]) (by rw [x_bind]) ?_
      exact Ole_ob (f_bindOne k _ _ _) (fun _ => Ole_ite (ih _ _ _) (Ole_rf _))
    | 9 =>
      refine Ole_eq (by rw [x_bind]) (by rw [x_bind]) ?_
      exact Ole_rf _
    | b + 10 =>
      refine Ole_eq (by rw [x_bind]) (by rw [x_bind]) (Ole_no _)
theorem f_stepIter : ∀ (k b : Nat) (L : Nat → Int32) (σ : MS), Ole (x_stepIter k b L σ) (x_stepIter (k + 1) b L σ) := by
  intro k
  induction k with
  | zero => intro b L σ; exact Ole_no _
  | succ k ih =>
    intro b L σ
    match b with
    | 0 =>
      refine Ole_eq (by rw [x_stepIter]) (by rw [x_stepIter]) ?_
      exact Ole_ite (Ole_ite (Ole_ite (Ole_ite (Ole_rf _) (ih _ _ _)) (Ole_rf _)) (Ole_rf _)) (Ole_rf _)
    | 1 =>
      refine Ole_eq (by rw [x_stepIter]) (by rw [x_stepIter]) ?_
      exact Ole_ite (ih _ _ _) (Ole_rf _)
    | 2 =>
      refine Ole_eq (by rw [x_stepIter]) (by rw [x_stepIter]) ?_
      exact Ole_ob (f_worked k _ _ _) (fun _ => Ole_ite (Ole_ob (f_memberAt k _ _ _) (fun _ => Ole_ob (f_bind k _ _ _) (fun _ => ih _ _ _))) (ih _ _ _))
    | 3 =>
      refine Ole_eq (by rw [x_stepIter]) (by rw [x_stepIter]) ?_
      exact Ole_ite (ih _ _ _) (ih _ _ _)
    | 4 =>
      refine Ole_eq (by rw [x_stepIter]) (by rw [x_stepIter]) ?_
      exact ih _ _ _
    | 5 =>
      refine Ole_eq (by rw [x_stepIter]) (by rw [x_stepIter]) ?_
      exact Ole_ite (Ole_rf _) (Ole_rf _)
    | b + 6 =>
      refine Ole_eq (by rw [x_stepIter]) (by rw [x_stepIter]) (Ole_no _)
theorem f_isTrue : ∀ (k b : Nat) (L : Nat → Int32) (σ : MS), Ole (x_isTrue k b L σ) (x_isTrue (k + 1) b L σ) := by
  intro k
  induction k with
  | zero => intro b L σ; exact Ole_no _
  | succ k ih =>
    intro b L σ
    match b with
    | 0 =>
      refine Ole_eq (by rw [x_isTrue]) (by rw [x_isTrue]) ?_
      exact Ole_ob (f_pop k _ _ _) (fun _ => Ole_ite (ih _ _ _) (Ole_ite (ih _ _ _) (Ole_ob (f_fail k _ _ _) (fun _ => ih _ _ _))))
    | 1 =>
      refine Ole_eq (by rw [x_isTrue]) (by rw [x_isTrue]) ?_
      exact Ole_ite (ih _ _ _) (ih _ _ _)
    | 2 =>
      refine Ole_eq (by rw [x_isTrue]) (by rw [x_isTrue]) ?_
      exact ih _ _ _
    | 3 =>
      refine Ole_eq (by rw [x_isTrue]) (by rw [x_isTrue]) ?_
      exact Ole_ite (Ole_rf _) (Ole_rf _)
    | b + 4 =>
      refine Ole_eq (by rw [x_isTrue]) (by rw [x_isTrue]) (Ole_no _)
theorem f_isSlice : ∀ (k b : Nat) (L : Nat → Int32) (σ : MS), Ole (x_isSlice k b L σ) (x_isSlice (k + 1) b L σ) := by
  intro k
  induction k with
  | zero => intro b L σ; exact Ole_no _
  | succ k ih =>
    intro b L σ
    match b with
    | 0 =>
      refine Ole_eq (by rw [x_isSlice]) (by rw [x_isSlice]) ?_
      exact Ole_ob (f_kind k _ _ _) (fun _ => Ole_ite (ih _ _ _) (Ole_ite (ih _ _ _) (ih _ _ _)))
    | 1 =>
      refine Ole_eq (by rw [x_isSlice]) (by rw [x_isSlice]) ?_
      exact Ole_ob (f_kind k _ _ _) (fun _ => Ole_ite (Ole_ob (f_kind k _ _ _) (fun _ => Ole_ite (ih _ _ _) (ih _ _ _))) (ih _ _ _))
    | 2 =>
      refine Ole_eq (by rw [x_isSlice]) (by rw [x_isSlice]) ?_
      exact Ole_ob (f_fail k _ _ _) (fun _ => Ole_rf _)
    | 3 =>
      refine Ole_eq (by rw [x_isSlice]) (by rw [x_isSlice]) ?_
      exact Ole_ob (f_intOf k _ _ _ _) (fun _ => ih _ _ _)
    | 4 =>
      refine Ole_eq (by rw [x_isSlice]) (by rw [x_isSlice]) ?_
      exact Ole_ob (f_intOf k _ _ _ _) (fun _ => ih _ _ _)
    | 5 =>
      refine Ole_eq (by rw [x_isSlice]) (by rw [x_isSlice]) ?_
      exact Ole_rf _
    | b + 6 =>
      refine Ole_eq (by rw [x_isSlice]) (by rw [x_isSlice]) (Ole_no _)
theorem f_isSliceIn : ∀ (k b : Nat) (L : Nat → Int32) (σ : MS), Ole (x_isSliceIn k b L σ) (x_isSliceIn (k + 1) b L σ) := by
  intro k
  induction k with
  | zero => intro b L σ; exact Ole_no _
  | succ k ih =>
    intro b L σ
    match b with
    | 0 =>
      refine Ole_eq (by rw [x_isSliceIn]) (by rw [x_isSliceIn]) ?_
      exact Ole_ite (ih _ _ _) (Ole_ite (ih _ _ _) (Ole_ite (Ole_ite (ih _ _ _) (ih _ _ _)) (Ole_rf _)))
    | 1 =>
      refine Ole_eq (by rw [x_isSliceIn]) (by rw [x_isSliceIn]) ?_
      exact Ole_ob (f_fail k _ _ _) (fun _ => Ole_rf _)
    | 2 =>
      refine Ole_eq (by rw [x_isSliceIn]) (by rw [x_isSliceIn]) ?_
      exact Ole_rf _
    | b + 3 =>
      refine Ole_eq (by rw [x_isSliceIn]) (by rw [x_isSliceIn]) (Ole_no _)
theorem f_stringOf__28 : ∀ (k b : Nat) (L : Nat → Int32) (σ : MS), Ole (x_stringOf__28 k b L σ) (x_stringOf__28 (k + 1) b L σ) := by
  intro k
  induction k with
  | zero => intro b L σ; exact Ole_no _
  | succ k ih =>
    intro b L σ
    match b with
    | 0 =>
      refine Ole_eq (by rw [x_stringOf__28]) (by rw [x_stringOf__28]) ?_
      exact Ole_ite (Ole_rf _) (Ole_ite (ih _ _ _) (Ole_ob (f_fail k _ _ _) (fun _ => Ole_rf _)))
    | 1 =>
      refine Ole_eq (by rw [x_stringOf__28]) (by rw [x_stringOf__28]) ?_
      exact Ole_ob (f_make k _ _ _) (fun _ => ih _ _ _)
    | 2 =>
      refine Ole_eq (by rw [x_stringOf__28]) (by rw [x_stringOf__28]) ?_
      exact Ole_ite (ih _ _ _) (Ole_ite (Ole_ite (Ole_ite (ih _ _ _) (Ole_rf _)) (Ole_rf _)) (ih _ _ _))
    | 3 =>
      refine Ole_eq (by rw [x_stringOf__28]) (by rw [x_stringOf__28]) ?_
      exact ih _ _ _
    | 4 =>
      refine Ole_eq (by rw [x_stringOf__28]) (by rw [x_stringOf__28]) ?_
      exact Ole_ite (Ole_rf _) (Ole_ite (ih _ _ _) (Ole_rf _))
    | 5 =>
      refine Ole_eq (by rw [x_stringOf__28]) (by rw [x_stringOf__28]) ?_
      exact Ole_rf _
    | b + 6 =>
      refine Ole_eq (by rw [x_stringOf__28]) (by rw [x_stringOf__28]) (Ole_no _)
theorem f_slice : ∀ (k b : Nat) (L : Nat → Int32) (σ : MS), Ole (x_slice k b L σ) (x_slice (k + 1) b L σ) := by
  intro k
  induction k with
  | zero => intro b L σ; exact Ole_no _
  | succ k ih =>
    intro b L σ
    match b with
    | 0 =>
      refine Ole_eq (by rw [x_slice]) (by rw [x_slice]) ?_
      exact Ole_ob (f_isSlice k _ _ _) (fun _ => Ole_ite (ih _ _ _) (Ole_ob (f_isSliceIn k _ _ _) (fun _ => Ole_ite (ih _ _ _) (ih _ _ _))))
    | 1 =>
      refine Ole_eq (by rw [x_slice]) (by rw [x_slice]) ?_
      exact Ole_rf _
    | 2 =>
      refine Ole_eq (by rw [x_slice]) (by rw [x_slice]) ?_
      exact Ole_ite (Ole_ite (Ole_ob (f_stringOf__28 k _ _ _) (fun _ => Ole_rf _)) (ih _ _ _)) (Ole_rf _)
    | 3 =>
      refine Ole_eq (by rw [x_slice]) (by rw [x_slice]) ?_
      exact ih _ _ _
    | 4 =>
      refine Ole_eq (by rw [x_slice]) (by rw [x_slice]) ?_
      exact Ole_ite (ih _ _ _) (Ole_ite (Ole_ob (f_push k _ _ _) (fun _ => ih _ _ _)) (Ole_rf _))
    | 5 =>
      refine Ole_eq (by rw [x_slice]) (by rw [x_slice]) ?_
      exact Ole_ob (f_tupleOf k _ _ _) (fun _ => Ole_rf _)
    | b + 6 =>
      refine Ole_eq (by rw [x_slice]) (by rw [x_slice]) (Ole_no _)
theorem f_partAt : ∀ (k b : Nat) (L : Nat → Int32) (σ : MS), Ole (x_partAt k b L σ) (x_partAt (k + 1) b L σ) := by
  intro k
  induction k with
  | zero => intro b L σ; exact Ole_no _
  | succ k ih =>
    intro b L σ
    match b with
    | 0 =>
      refine Ole_eq (by rw [x_partAt]) (by rw [x_partAt]) ?_
      exact Ole_ob (f_kind k _ _ _) (fun _ => Ole_ite (ih _ _ _) (Ole_ite (ih _ _ _) (ih _ _ _)))
    | 1 =>
      refine Ole_eq (by rw [x_partAt]) (by rw [x_partAt]) ?_
      exact Ole_ob (f_kind k _ _ _) (fun _ => Ole_ite (ih _ _ _) (Ole_ob (f_wrongKind k _ _ _) (fun _ => Ole_rf _)))
    | 2 =>
      refine Ole_eq (by rw [x_partAt]) (by rw [x_partAt]) ?_
      exact Ole_ob (f_intOf k _ _ _ _) (fun _ => Ole_ite (ih _ _ _) (Ole_ob (f_fail k _ _ _) (fun _ => Ole_rf _)))
    | 3 =>
      refine Ole_eq (by rw [x_partAt]) (by rw [x_partAt]) ?_
      exact Ole_ite (Ole_ite (ih _ _ _) (ih _ _ _)) (Ole_rf _)
    | 4 =>
      refine Ole_eq (by rw [x_partAt]) (by rw [x_partAt]) ?_
      exact Ole_ob (f_memberAt k _ _ _) (fun _ => ih _ _ _)
    | 5 =>
      refine Ole_eq (by rw [x_partAt]) (by rw [x_partAt]) ?_
      exact Ole_rf _
    | 6 =>
      refine Ole_eq (by rw [x_partAt]) (by rw [x_partAt]) ?_
      exact Ole_ob (f_isMap k _ _ _) (fun _ => Ole_ite (Ole_ob (f_wrongKind k _ _ _) (fun _ => Ole_rf _)) (ih _ _ _))
    | 7 =>
      refine Ole_eq (by rw [x_partAt]) (by rw [x_partAt]) ?_
      exact ih _ _ _
    | 8 =>
      refine Ole_eq (by rw [x_partAt]) (by rw [x_partAt]) ?_
      exact Ole_ite (Ole_ite (ih _ _ _) (Ole_ite (Ole_ite (Ole_ob (f_compare k _ _ _) (fun _ => Ole_ite (Ole_ite (ih _ _ _) (Ole_rf _)) (ih _ _ _))) (Ole_rf _)) (Ole_rf _))) (Ole_rf _)
    | 9 =>
      refine Ole_eq (by rw [x_partAt]) (by rw [x_partAt]) ?_
      exact ih _ _ _
    | 10 =>
      refine Ole_eq (by rw [x_partAt]) (by rw [x_partAt]) ?_
      exact Ole_ite (ih _ _ _) (ih _ _ _)
    | 11 =>
      refine Ole_eq (by rw [x_partAt]) (by rw [x_partAt]) ?_
      exact ih _ _ _
    | 12 =>
      refine Ole_eq (by rw [x_partAt]) (by rw [x_partAt]) ?_
      exact Ole_rf _
    | b + 13 =>
      refine Ole_eq (by rw [x_partAt]) (by rw [x_partAt]) (Ole_no _)
theorem f_image : ∀ (k b : Nat) (L : Nat → Int32) (σ : MS), Ole (x_image k b L σ) (x_image (k + 1) b L σ) := by
  intro k
  induction k with
  | zero => intro b L σ; exact Ole_no _
  | succ k ih =>
    intro b L σ
    match b with
    | 0 =>
      refine Ole_eq (by rw [x_image]) (by rw [x_image]) ?_
      exact Ole_ob (f_isMap k _ _ _) (fun _ => Ole_ite (Ole_ob (f_wrongKind k _ _ _) (fun _ => Ole_rf _)) (ih _ _ _))
    | 1 =>
      refine Ole_eq (by rw [x_image]) (by rw [x_image]) ?_
      exact ih _ _ _
    | 2 =>
      refine Ole_eq (by rw [x_image]) (by rw [x_image]) ?_
      exact Ole_ite (Ole_ite (ih _ _ _) (Ole_ite (Ole_ite (Ole_ob (f_compare k _ _ _) (fun _ => Ole_ite (Ole_ite (Ole_ob (f_push k _ _ _) (fun _ => ih _ _ _)) (Ole_rf _)) (ih _ _ _))) (Ole_rf _)) (Ole_rf _))) (Ole_rf _)
    | 3 =>
      refine Ole_eq (by rw [x_image]) (by rw [x_image]) ?_
      exact ih _ _ _
    | 4 =>
      refine Ole_eq (by rw [x_image]) (by rw [x_image]) ?_
      exact Ole_ob (f_setOf k _ _ _) (fun _ => Ole_rf _)
    | b + 5 =>
      refine Ole_eq (by rw [x_image]) (by rw [x_image]) (Ole_no _)
theorem f_isRow : ∀ (k b : Nat) (L : Nat → Int32) (σ : MS), Ole (x_isRow k b L σ) (x_isRow (k + 1) b L σ) := by
  intro k
  induction k with
  | zero => intro b L σ; exact Ole_no _
  | succ k ih =>
    intro b L σ
    match b with
    | 0 =>
      refine Ole_eq (by rw [x_isRow]) (by rw [x_isRow]) ?_
      exact Ole_ob (f_kind k _ _ _) (fun _ => Ole_ite (ih _ _ _) (ih _ _ _))
    | 1 =>
      refine Ole_eq (by rw [x_isRow]) (by rw [x_isRow]) ?_
      exact ih _ _ _
    | 2 =>
      refine Ole_eq (by rw [x_isRow]) (by rw [x_isRow]) ?_
      exact Ole_ite (Ole_rf _) (Ole_rf _)
    | b + 3 =>
      refine Ole_eq (by rw [x_isRow]) (by rw [x_isRow]) (Ole_no _)
theorem f_s_begins {X Y : Nat → Nat → Nat → (Nat → Int32) → MS → Option (Int32 × MS)} (hX : ∀ e m b L σ, Ole (X e m b L σ) (Y e m b L σ)) (k d b : Nat) (L : Nat → Int32) (σ : MS) : Ole (s_begins X k d b L σ) (s_begins Y (k + 1) d b L σ) := by
  match b with
  | 0 => exact Ole_ite (hX _ _ _ _ _) (Ole_rf _)
  | 1 => exact Ole_ite (Ole_ite (hX _ _ _ _ _) (Ole_ite (hX _ _ _ _ _) (Ole_ite (hX _ _ _ _ _) (Ole_ite (hX _ _ _ _ _) (Ole_ite (hX _ _ _ _ _) (Ole_ite (hX _ _ _ _ _) (Ole_ite (hX _ _ _ _ _) (Ole_ite (hX _ _ _ _ _) (Ole_ite (hX _ _ _ _ _) (Ole_ite (hX _ _ _ _ _) (Ole_ite (hX _ _ _ _ _) (Ole_ite (hX _ _ _ _ _) (Ole_ite (hX _ _ _ _ _) (Ole_ite (hX _ _ _ _ _) (Ole_ite (hX _ _ _ _ _) (hX _ _ _ _ _)))))))))))))))) (Ole_rf _)
  | 2 => exact Ole_ob (f_sweep k _ _ _) (fun _ => Ole_ite (Ole_ite (Ole_ob (f_literal k _ _ _) (fun _ => Ole_ob (f_answer k _ _ _) (fun _ => Ole_ob (f_push k _ _ _) (fun _ => Ole_rf _)))) (Ole_rf _)) (Ole_rf _))
  | 3 => exact Ole_ob (f_sweep k _ _ _) (fun _ => Ole_ite (Ole_ite (Ole_ob (f_stringOf__12 k _ _ _) (fun _ => Ole_ob (f_answer k _ _ _) (fun _ => Ole_ob (f_push k _ _ _) (fun _ => Ole_rf _)))) (Ole_rf _)) (Ole_rf _))
  | 4 => exact Ole_ob (f_push k _ _ _) (fun _ => Ole_rf _)
  | 5 => exact Ole_ob (f_push k _ _ _) (fun _ => Ole_rf _)
  | 6 => exact Ole_ob (f_push k _ _ _) (fun _ => Ole_rf _)
  | 7 => exact Ole_ob (f_sweep k _ _ _) (fun _ => Ole_ob (f_newAtom k _ _ _) (fun _ => Ole_ob (f_answer k _ _ _) (fun _ => Ole_ob (f_push k _ _ _) (fun _ => Ole_rf _))))
  | 8 => exact Ole_ob (f_valueOf k _ _ _) (fun _ => Ole_ob (f_push k _ _ _) (fun _ => Ole_rf _))
  | 9 => exact Ole_od (fun _ => Ole_ob (hX _ _ _ _ _) (fun _ => Ole_rf _))
  | 10 => exact Ole_od (fun _ => Ole_ob (hX _ _ _ _ _) (fun _ => Ole_rf _))
  | 11 => exact Ole_od (fun _ => Ole_ob (hX _ _ _ _ _) (fun _ => Ole_rf _))
  | 12 => exact Ole_od (fun _ => Ole_ob (hX _ _ _ _ _) (fun _ => Ole_rf _))
  | 13 => exact Ole_od (fun _ => Ole_ob (hX _ _ _ _ _) (fun _ => Ole_rf _))
  | 14 => exact Ole_od (fun _ => Ole_ob (hX _ _ _ _ _) (fun _ => Ole_rf _))
  | 15 => exact Ole_od (fun _ => Ole_ob (hX _ _ _ _ _) (fun _ => Ole_rf _))
  | 16 => exact Ole_ite (Ole_od (fun _ => Ole_ob (hX _ _ _ _ _) (fun _ => Ole_ite (Ole_ob (f_sweep k _ _ _) (fun _ => Ole_ob (f_pop k _ _ _) (fun _ => Ole_ob (f_single k _ _ _) (fun _ => Ole_ob (f_answer k _ _ _) (fun _ => Ole_ob (f_push k _ _ _) (fun _ => hX _ _ _ _ _)))))) (hX _ _ _ _ _)))) (Ole_rf _)
  | 17 => exact Ole_rf _
  | b + 18 => exact Ole_no _
theorem f_s_bounds {X Y : Nat → Nat → Nat → (Nat → Int32) → MS → Option (Int32 × MS)} (hX : ∀ e m b L σ, Ole (X e m b L σ) (Y e m b L σ)) (k d b : Nat) (L : Nat → Int32) (σ : MS) : Ole (s_bounds X k d b L σ) (s_bounds Y (k + 1) d b L σ) := by
  match b with
  | 0 => exact Ole_ite (Ole_od (fun _ => Ole_ob (hX _ _ _ _ _) (fun _ => Ole_ite (Ole_ite (hX _ _ _ _ _) (Ole_ite (Ole_ite (Ole_od (fun _ => Ole_ob (hX _ _ _ _ _) (fun _ => hX _ _ _ _ _))) (Ole_rf _)) (hX _ _ _ _ _))) (Ole_rf _)))) (Ole_rf _)
  | 1 => exact Ole_ite (Ole_ite (Ole_od (fun _ => Ole_ob (hX _ _ _ _ _) (fun _ => hX _ _ _ _ _))) (Ole_rf _)) (hX _ _ _ _ _)
  | 2 => exact Ole_ite (Ole_ob (f_sweep k _ _ _) (fun _ => Ole_ite (Ole_ite (hX _ _ _ _ _) (hX _ _ _ _ _)) (Ole_rf _))) (hX _ _ _ _ _)
  | 3 => exact hX _ _ _ _ _
  | 4 => exact Ole_ite (Ole_ite (hX _ _ _ _ _) (hX _ _ _ _ _)) (Ole_rf _)
  | 5 => exact hX _ _ _ _ _
  | 6 => exact Ole_ob (f_range k _ _ _) (fun _ => Ole_ob (f_answer k _ _ _) (fun _ => Ole_ob (f_push k _ _ _) (fun _ => hX _ _ _ _ _)))
  | 7 => exact Ole_rf _
  | b + 8 => exact Ole_no _
theorem f_s_callFunc {X Y : Nat → Nat → Nat → (Nat → Int32) → MS → Option (Int32 × MS)} (hX : ∀ e m b L σ, Ole (X e m b L σ) (Y e m b L σ)) (k d b : Nat) (L : Nat → Int32) (σ : MS) : Ole (s_callFunc X k d b L σ) (s_callFunc Y (k + 1) d b L σ) := by
  match b with
  | 0 => exact Ole_ite (hX _ _ _ _ _) (Ole_rf _)
  | 1 => exact Ole_ite (hX _ _ _ _ _) (Ole_ite (Ole_od (fun _ => Ole_ob (hX _ _ _ _ _) (fun _ => Ole_ite (hX _ _ _ _ _) (Ole_rf _)))) (hX _ _ _ _ _))
  | 2 => exact Ole_ite (hX _ _ _ _ _) (Ole_rf _)
  | 3 => exact Ole_ite (hX _ _ _ _ _) (Ole_ite (Ole_ite (hX _ _ _ _ _) (hX _ _ _ _ _)) (Ole_rf _))
  | 4 => exact Ole_ob (f_fail k _ _ _) (fun _ => Ole_rf _)
  | 5 => exact Ole_ob (f_sweep k _ _ _) (fun _ => Ole_ite (hX _ _ _ _ _) (Ole_rf _))
  | 6 => exact Ole_ite (hX _ _ _ _ _) (Ole_rf _)
  | 7 => exact hX _ _ _ _ _
  | 8 => exact hX _ _ _ _ _
  | 9 => exact hX _ _ _ _ _
  | 10 => exact Ole_ite (hX _ _ _ _ _) (Ole_ite (Ole_ite (hX _ _ _ _ _) (Ole_ite (hX _ _ _ _ _) (Ole_rf _))) (Ole_rf _))
  | 11 => exact hX _ _ _ _ _
  | 12 => exact Ole_ite (hX _ _ _ _ _) (Ole_rf _)
  | 13 => exact hX _ _ _ _ _
  | 14 => exact hX _ _ _ _ _
  | 15 => exact Ole_ite (Ole_od (fun _ => Ole_ob (hX _ _ _ _ _) (fun _ => hX _ _ _ _ _))) (Ole_rf _)
  | 16 => exact Ole_ite (hX _ _ _ _ _) (Ole_ite (hX _ _ _ _ _) (Ole_rf _))
  | 17 => exact hX _ _ _ _ _
  | 18 => exact hX _ _ _ _ _
  | 19 => exact Ole_ite (hX _ _ _ _ _) (Ole_rf _)
  | 20 => exact hX _ _ _ _ _
  | 21 => exact Ole_ite (hX _ _ _ _ _) (Ole_rf _)
  | 22 => exact Ole_ite (Ole_ite (Ole_ob (f_answer k _ _ _) (fun _ => hX _ _ _ _ _)) (Ole_rf _)) (hX _ _ _ _ _)
  | 23 => exact Ole_rf _
  | b + 24 => exact Ole_no _
theorem f_s_choose {X Y : Nat → Nat → Nat → (Nat → Int32) → MS → Option (Int32 × MS)} (hX : ∀ e m b L σ, Ole (X e m b L σ) (Y e m b L σ)) (k d b : Nat) (L : Nat → Int32) (σ : MS) : Ole (s_choose X k d b L σ) (s_choose Y (k + 1) d b L σ) := by
  match b with
  | 0 => exact Ole_ite (hX _ _ _ _ _) (Ole_rf _)
  | 1 => exact Ole_ite (hX _ _ _ _ _) (Ole_ite (Ole_ite (Ole_ite (hX _ _ _ _ _) (Ole_ite (Ole_od (fun _ => Ole_ob (hX _ _ _ _ _) (fun _ => Ole_ite (hX _ _ _ _ _) (hX _ _ _ _ _)))) (Ole_rf _))) (Ole_rf _)) (hX _ _ _ _ _))
  | 2 => exact hX _ _ _ _ _
  | 3 => exact Ole_ite (hX _ _ _ _ _) (Ole_rf _)
  | 4 => exact Ole_ite (Ole_ite (Ole_od (fun _ => Ole_ob (hX _ _ _ _ _) (fun _ => hX _ _ _ _ _))) (Ole_rf _)) (hX _ _ _ _ _)
  | 5 => exact Ole_rf _
  | b + 6 => exact Ole_no _
theorem f_s_eval {X Y : Nat → Nat → Nat → (Nat → Int32) → MS → Option (Int32 × MS)} (hX : ∀ e m b L σ, Ole (X e m b L σ) (Y e m b L σ)) (k d b : Nat) (L : Nat → Int32) (σ : MS) : Ole (s_eval X k d b L σ) (s_eval Y (k + 1) d b L σ) := by
  match b with
  | 0 => exact hX _ _ _ _ _
  | 1 => exact Ole_ite (Ole_ob (f_isOver k _ _ _) (fun _ => Ole_ite (hX _ _ _ _ _) (Ole_ite (hX _ _ _ _ _) (Ole_rf _)))) (Ole_rf _)
  | 2 => exact Ole_od (fun _ => Ole_ob (hX _ _ _ _ _) (fun _ => hX _ _ _ _ _))
  | 3 => exact Ole_ite (hX _ _ _ _ _) (Ole_ite (Ole_ite (Ole_od (fun _ => Ole_ob (hX _ _ _ _ _) (fun _ => hX _ _ _ _ _))) (Ole_rf _)) (hX _ _ _ _ _))
  | 4 => exact Ole_rf _
  | b + 5 => exact Ole_no _
theorem f_s_former {X Y : Nat → Nat → Nat → (Nat → Int32) → MS → Option (Int32 × MS)} (hX : ∀ e m b L σ, Ole (X e m b L σ) (Y e m b L σ)) (k d b : Nat) (L : Nat → Int32) (σ : MS) : Ole (s_former X k d b L σ) (s_former Y (k + 1) d b L σ) := by
  match b with
  | 0 => exact Ole_ite (Ole_od (fun _ => Ole_ob (hX _ _ _ _ _) (fun _ => hX _ _ _ _ _))) (Ole_rf _)
  | 1 => exact Ole_ite (hX _ _ _ _ _) (Ole_ite (Ole_ite (Ole_ite (hX _ _ _ _ _) (Ole_ite (Ole_od (fun _ => Ole_ob (hX _ _ _ _ _) (fun _ => Ole_ite (hX _ _ _ _ _) (hX _ _ _ _ _)))) (Ole_rf _))) (Ole_rf _)) (hX _ _ _ _ _))
  | 2 => exact Ole_ite (Ole_od (fun _ => Ole_ob (hX _ _ _ _ _) (fun _ => Ole_ite (Ole_ite (Ole_ite (Ole_ite (Ole_ite (Ole_ob (f_fail k _ _ _) (fun _ => hX _ _ _ _ _)) (hX _ _ _ _ _)) (Ole_rf _)) (hX _ _ _ _ _)) (Ole_rf _)) (hX _ _ _ _ _)))) (Ole_rf _)
  | 3 => exact Ole_ite (Ole_ite (Ole_od (fun _ => Ole_ob (hX _ _ _ _ _) (fun _ => Ole_ite (hX _ _ _ _ _) (hX _ _ _ _ _)))) (Ole_rf _)) (hX _ _ _ _ _)
  | 4 => exact hX _ _ _ _ _
  | 5 => exact hX _ _ _ _ _
  | 6 => exact hX _ _ _ _ _
  | 7 => exact Ole_ite (Ole_ob (f_clear k _ _ _) (fun _ => Ole_ite (Ole_ite (Ole_ite (Ole_ob (f_setOf k _ _ _) (fun _ => hX _ _ _ _ _)) (hX _ _ _ _ _)) (Ole_rf _)) (hX _ _ _ _ _))) (Ole_rf _)
  | 8 => exact Ole_ob (f_tupleOf k _ _ _) (fun _ => hX _ _ _ _ _)
  | 9 => exact Ole_ob (f_answer k _ _ _) (fun _ => Ole_ob (f_push k _ _ _) (fun _ => hX _ _ _ _ _))
  | 10 => exact Ole_rf _
  | b + 11 => exact Ole_no _
theorem f_s_goOn {X Y : Nat → Nat → Nat → (Nat → Int32) → MS → Option (Int32 × MS)} (hX : ∀ e m b L σ, Ole (X e m b L σ) (Y e m b L σ)) (k d b : Nat) (L : Nat → Int32) (σ : MS) : Ole (s_goOn X k d b L σ) (s_goOn Y (k + 1) d b L σ) := by
  match b with
  | 0 => exact hX _ _ _ _ _
  | 1 => exact Ole_ite (Ole_ob (f_sweep k _ _ _) (fun _ => Ole_ite (hX _ _ _ _ _) (Ole_ite (hX _ _ _ _ _) (hX _ _ _ _ _)))) (hX _ _ _ _ _)
  | 2 => exact Ole_ite (Ole_ite (hX _ _ _ _ _) (Ole_rf _)) (Ole_rf _)
  | 3 => exact Ole_ite (Ole_rf _) (hX _ _ _ _ _)
  | 4 => exact Ole_od (fun _ => Ole_ob (hX _ _ _ _ _) (fun _ => Ole_ite (hX _ _ _ _ _) (Ole_rf _)))
  | 5 => exact Ole_ite (hX _ _ _ _ _) (Ole_rf _)
  | 6 => exact Ole_ite (Ole_rf _) (hX _ _ _ _ _)
  | 7 => exact Ole_ite (Ole_ob (f_stepIter k _ _ _) (fun _ => Ole_ite (Ole_ite (hX _ _ _ _ _) (hX _ _ _ _ _)) (hX _ _ _ _ _))) (Ole_rf _)
  | 8 => exact Ole_ite (hX _ _ _ _ _) (Ole_ite (Ole_ite (Ole_ite (Ole_rf _) (hX _ _ _ _ _)) (Ole_rf _)) (Ole_rf _))
  | 9 => exact Ole_rf _
  | b + 10 => exact Ole_no _
theorem f_s_goesOn {X Y : Nat → Nat → Nat → (Nat → Int32) → MS → Option (Int32 × MS)} (hX : ∀ e m b L σ, Ole (X e m b L σ) (Y e m b L σ)) (k d b : Nat) (L : Nat → Int32) (σ : MS) : Ole (s_goesOn X k d b L σ) (s_goesOn Y (k + 1) d b L σ) := by
  match b with
  | 0 => exact Ole_ite (Ole_ite (Ole_rf _) (hX _ _ _ _ _)) (Ole_rf _)
  | 1 => exact Ole_ite (hX _ _ _ _ _) (Ole_ite (hX _ _ _ _ _) (hX _ _ _ _ _))
  | 2 => exact Ole_ob (f_isTrue k _ _ _) (fun _ => Ole_ite (Ole_ite (hX _ _ _ _ _) (hX _ _ _ _ _)) (hX _ _ _ _ _))
  | 3 => exact hX _ _ _ _ _
  | 4 => exact Ole_ite (Ole_ite (Ole_od (fun _ => Ole_ob (hX _ _ _ _ _) (fun _ => Ole_ite (Ole_ob (f_isTrue k _ _ _) (fun _ => Ole_ite (hX _ _ _ _ _) (hX _ _ _ _ _))) (hX _ _ _ _ _)))) (Ole_rf _)) (hX _ _ _ _ _)
  | 5 => exact hX _ _ _ _ _
  | 6 => exact hX _ _ _ _ _
  | 7 => exact Ole_ob (f_truth k _ _ _) (fun _ => Ole_ob (f_answer k _ _ _) (fun _ => Ole_ob (f_push k _ _ _) (fun _ => Ole_rf _)))
  | 8 => exact Ole_ite (Ole_od (fun _ => Ole_ob (hX _ _ _ _ _) (fun _ => Ole_ite (Ole_ite (Ole_ite (Ole_od (fun _ => Ole_ob (hX _ _ _ _ _) (fun _ => hX _ _ _ _ _))) (Ole_rf _)) (hX _ _ _ _ _)) (hX _ _ _ _ _)))) (Ole_rf _)
  | 9 => exact Ole_ite (hX _ _ _ _ _) (Ole_rf _)
  | 10 => exact Ole_ob (f_sweep k _ _ _) (fun _ => Ole_ite (hX _ _ _ _ _) (hX _ _ _ _ _))
  | 11 => exact hX _ _ _ _ _
  | 12 => exact hX _ _ _ _ _
  | 13 => exact Ole_ite (Ole_ite (Ole_ite (hX _ _ _ _ _) (Ole_ite (hX _ _ _ _ _) (Ole_ite (hX _ _ _ _ _) (hX _ _ _ _ _)))) (Ole_rf _)) (Ole_rf _)
  | 14 => exact Ole_ite (Ole_ob (f_slice k _ _ _) (fun _ => hX _ _ _ _ _)) (Ole_rf _)
  | 15 => exact Ole_ob (f_partAt k _ _ _) (fun _ => hX _ _ _ _ _)
  | 16 => exact Ole_ob (f_image k _ _ _) (fun _ => hX _ _ _ _ _)
  | 17 => exact Ole_ite (Ole_ob (f_operate k _ _ _) (fun _ => hX _ _ _ _ _)) (Ole_rf _)
  | 18 => exact Ole_ob (f_answer k _ _ _) (fun _ => Ole_ob (f_push k _ _ _) (fun _ => Ole_rf _))
  | b + 19 => exact Ole_no _
theorem f_s_holds {X Y : Nat → Nat → Nat → (Nat → Int32) → MS → Option (Int32 × MS)} (hX : ∀ e m b L σ, Ole (X e m b L σ) (Y e m b L σ)) (k d b : Nat) (L : Nat → Int32) (σ : MS) : Ole (s_holds X k d b L σ) (s_holds Y (k + 1) d b L σ) := by
  match b with
  | 0 => exact Ole_od (fun _ => Ole_ob (hX _ _ _ _ _) (fun _ => Ole_ite (Ole_ob (f_isTrue k _ _ _) (fun _ => Ole_ite (hX _ _ _ _ _) (hX _ _ _ _ _))) (hX _ _ _ _ _)))
  | 1 => exact hX _ _ _ _ _
  | 2 => exact Ole_ite (Ole_rf _) (Ole_rf _)
  | b + 3 => exact Ole_no _
theorem f_s_openIter {X Y : Nat → Nat → Nat → (Nat → Int32) → MS → Option (Int32 × MS)} (hX : ∀ e m b L σ, Ole (X e m b L σ) (Y e m b L σ)) (k d b : Nat) (L : Nat → Int32) (σ : MS) : Ole (s_openIter X k d b L σ) (s_openIter Y (k + 1) d b L σ) := by
  match b with
  | 0 => exact Ole_ite (Ole_od (fun _ => Ole_ob (hX _ _ _ _ _) (fun _ => Ole_ite (hX _ _ _ _ _) (Ole_rf _)))) (Ole_rf _)
  | 1 => exact Ole_ob (f_pop k _ _ _) (fun _ => Ole_ob (f_isRow k _ _ _) (fun _ => Ole_ite (Ole_ob (f_fail k _ _ _) (fun _ => Ole_rf _)) (hX _ _ _ _ _)))
  | 2 => exact Ole_ite (hX _ _ _ _ _) (Ole_rf _)
  | 3 => exact Ole_ite (hX _ _ _ _ _) (Ole_rf _)
  | 4 => exact Ole_rf _
  | b + 5 => exact Ole_no _
theorem f_s_quantify {X Y : Nat → Nat → Nat → (Nat → Int32) → MS → Option (Int32 × MS)} (hX : ∀ e m b L σ, Ole (X e m b L σ) (Y e m b L σ)) (k d b : Nat) (L : Nat → Int32) (σ : MS) : Ole (s_quantify X k d b L σ) (s_quantify Y (k + 1) d b L σ) := by
  match b with
  | 0 => exact Ole_ite (Ole_ite (hX _ _ _ _ _) (hX _ _ _ _ _)) (Ole_rf _)
  | 1 => exact hX _ _ _ _ _
  | 2 => exact Ole_ite (Ole_od (fun _ => Ole_ob (hX _ _ _ _ _) (fun _ => hX _ _ _ _ _))) (Ole_rf _)
  | 3 => exact Ole_ite (hX _ _ _ _ _) (Ole_ite (Ole_ite (Ole_od (fun _ => Ole_ob (hX _ _ _ _ _) (fun _ => Ole_ite (Ole_ite (hX _ _ _ _ _) (hX _ _ _ _ _)) (hX _ _ _ _ _)))) (Ole_rf _)) (hX _ _ _ _ _))
  | 4 => exact hX _ _ _ _ _
  | 5 => exact Ole_ite (Ole_ite (Ole_ite (Ole_od (fun _ => Ole_ob (hX _ _ _ _ _) (fun _ => Ole_ite (hX _ _ _ _ _) (hX _ _ _ _ _)))) (Ole_rf _)) (hX _ _ _ _ _)) (hX _ _ _ _ _)
  | 6 => exact hX _ _ _ _ _
  | 7 => exact hX _ _ _ _ _
  | 8 => exact hX _ _ _ _ _
  | 9 => exact Ole_ite (Ole_ob (f_clear k _ _ _) (fun _ => Ole_ite (Ole_ite (hX _ _ _ _ _) (hX _ _ _ _ _)) (hX _ _ _ _ _))) (Ole_rf _)
  | 10 => exact hX _ _ _ _ _
  | 11 => exact Ole_ob (f_truth k _ _ _) (fun _ => Ole_ob (f_answer k _ _ _) (fun _ => Ole_ob (f_push k _ _ _) (fun _ => hX _ _ _ _ _)))
  | 12 => exact Ole_rf _
  | b + 13 => exact Ole_no _
theorem f_s_setBrackets {X Y : Nat → Nat → Nat → (Nat → Int32) → MS → Option (Int32 × MS)} (hX : ∀ e m b L σ, Ole (X e m b L σ) (Y e m b L σ)) (k d b : Nat) (L : Nat → Int32) (σ : MS) : Ole (s_setBrackets X k d b L σ) (s_setBrackets Y (k + 1) d b L σ) := by
  match b with
  | 0 => exact Ole_ite (hX _ _ _ _ _) (Ole_rf _)
  | 1 => exact Ole_ite (hX _ _ _ _ _) (Ole_ite (Ole_od (fun _ => Ole_ob (hX _ _ _ _ _) (fun _ => Ole_ite (Ole_ite (Ole_ite (hX _ _ _ _ _) (hX _ _ _ _ _)) (Ole_rf _)) (hX _ _ _ _ _)))) (hX _ _ _ _ _))
  | 2 => exact Ole_ite (hX _ _ _ _ _) (hX _ _ _ _ _)
  | 3 => exact hX _ _ _ _ _
  | 4 => exact hX _ _ _ _ _
  | 5 => exact Ole_ite (Ole_ite (Ole_ite (hX _ _ _ _ _) (hX _ _ _ _ _)) (hX _ _ _ _ _)) (hX _ _ _ _ _)
  | 6 => exact hX _ _ _ _ _
  | 7 => exact Ole_ite (Ole_ob (f_distinct k _ _ _) (fun _ => hX _ _ _ _ _)) (hX _ _ _ _ _)
  | 8 => exact Ole_ite (hX _ _ _ _ _) (Ole_ite (Ole_ob (f_size k _ _ _) (fun _ => hX _ _ _ _ _)) (Ole_rf _))
  | 9 => exact Ole_ite (hX _ _ _ _ _) (hX _ _ _ _ _)
  | 10 => exact hX _ _ _ _ _
  | 11 => exact Ole_ite (hX _ _ _ _ _) (hX _ _ _ _ _)
  | 12 => exact hX _ _ _ _ _
  | 13 => exact hX _ _ _ _ _
  | 14 => exact Ole_ite (hX _ _ _ _ _) (Ole_rf _)
  | 15 => exact Ole_ite (Ole_ite (hX _ _ _ _ _) (Ole_ob (f_fail k _ _ _) (fun _ => hX _ _ _ _ _))) (hX _ _ _ _ _)
  | 16 => exact Ole_ite (Ole_ite (hX _ _ _ _ _) (Ole_ob (f_fail k _ _ _) (fun _ => hX _ _ _ _ _))) (hX _ _ _ _ _)
  | 17 => exact Ole_ite (Ole_ob (f_sweep k _ _ _) (fun _ => Ole_ob (f_setOf k _ _ _) (fun _ => Ole_ob (f_answer k _ _ _) (fun _ => Ole_ob (f_push k _ _ _) (fun _ => hX _ _ _ _ _))))) (hX _ _ _ _ _)
  | 18 => exact Ole_rf _
  | b + 19 => exact Ole_no _
theorem f_s_tupleBrackets {X Y : Nat → Nat → Nat → (Nat → Int32) → MS → Option (Int32 × MS)} (hX : ∀ e m b L σ, Ole (X e m b L σ) (Y e m b L σ)) (k d b : Nat) (L : Nat → Int32) (σ : MS) : Ole (s_tupleBrackets X k d b L σ) (s_tupleBrackets Y (k + 1) d b L σ) := by
  match b with
  | 0 => exact Ole_ite (hX _ _ _ _ _) (Ole_rf _)
  | 1 => exact Ole_ite (hX _ _ _ _ _) (Ole_ite (Ole_od (fun _ => Ole_ob (hX _ _ _ _ _) (fun _ => Ole_ite (Ole_ob (f_pop k _ _ _) (fun _ => hX _ _ _ _ _)) (hX _ _ _ _ _)))) (hX _ _ _ _ _))
  | 2 => exact hX _ _ _ _ _
  | 3 => exact Ole_ite (hX _ _ _ _ _) (hX _ _ _ _ _)
  | 4 => exact Ole_ite (hX _ _ _ _ _) (Ole_ob (f_size k _ _ _) (fun _ => hX _ _ _ _ _))
  | 5 => exact Ole_ite (hX _ _ _ _ _) (Ole_ite (hX _ _ _ _ _) (Ole_ob (f_push k _ _ _) (fun _ => hX _ _ _ _ _)))
  | 6 => exact Ole_ob (f_push k _ _ _) (fun _ => hX _ _ _ _ _)
  | 7 => exact Ole_ite (hX _ _ _ _ _) (hX _ _ _ _ _)
  | 8 => exact hX _ _ _ _ _
  | 9 => exact hX _ _ _ _ _
  | 10 => exact Ole_ite (hX _ _ _ _ _) (Ole_rf _)
  | 11 => exact Ole_ite (Ole_ite (hX _ _ _ _ _) (Ole_ob (f_fail k _ _ _) (fun _ => hX _ _ _ _ _))) (hX _ _ _ _ _)
  | 12 => exact Ole_ite (Ole_ob (f_sweep k _ _ _) (fun _ => Ole_ob (f_tupleOf k _ _ _) (fun _ => Ole_ob (f_answer k _ _ _) (fun _ => Ole_ob (f_push k _ _ _) (fun _ => hX _ _ _ _ _))))) (hX _ _ _ _ _)
  | 13 => exact Ole_rf _
  | b + 14 => exact Ole_no _
theorem f_GV : ∀ (k d m b : Nat) (L : Nat → Int32) (σ : MS), Ole (x_GV k d m b L σ) (x_GV (k + 1) d m b L σ) := by
  intro k
  induction k with
  | zero => intro d m b L σ; exact Ole_no _
  | succ k ih =>
    intro d m b L σ
    match m with
    | 0 => exact f_s_begins ih k d b L σ
    | 1 => exact f_s_bounds ih k d b L σ
    | 2 => exact f_s_callFunc ih k d b L σ
    | 3 => exact f_s_choose ih k d b L σ
    | 4 => exact f_s_eval ih k d b L σ
    | 5 => exact f_s_former ih k d b L σ
    | 6 => exact f_s_goOn ih k d b L σ
    | 7 => exact f_s_goesOn ih k d b L σ
    | 8 => exact f_s_holds ih k d b L σ
    | 9 => exact f_s_openIter ih k d b L σ
    | 10 => exact f_s_quantify ih k d b L σ
    | 11 => exact f_s_setBrackets ih k d b L σ
    | 12 => exact f_s_tupleBrackets ih k d b L σ
    | m + 13 => exact Ole_no _
theorem f_nameOf : ∀ (k b : Nat) (L : Nat → Int32) (σ : MS), Ole (x_nameOf k b L σ) (x_nameOf (k + 1) b L σ) := by
  intro k
  induction k with
  | zero => intro b L σ; exact Ole_no _
  | succ k ih =>
    intro b L σ
    match b with
    | 0 =>
      refine Ole_eq (by rw [x_nameOf]) (by rw [x_nameOf]) ?_
      exact ih _ _ _
    | 1 =>
      refine Ole_eq (by rw [x_nameOf]) (by rw [x_nameOf]) ?_
      exact Ole_ite (Ole_ite (ih _ _ _) (Ole_ite (ih _ _ _) (Ole_rf _))) (Ole_rf _)
    | 2 =>
      refine Ole_eq (by rw [x_nameOf]) (by rw [x_nameOf]) ?_
      exact Ole_rf _
    | b + 3 =>
      refine Ole_eq (by rw [x_nameOf]) (by rw [x_nameOf]) (Ole_no _)
theorem f_eval (k b : Nat) (L : Nat → Int32) (σ : MS) : Ole (x_eval k b L σ) (x_eval (k + 1) b L σ) := f_GV k 1300 4 b L σ
theorem f_workParts : ∀ (k b : Nat) (L : Nat → Int32) (σ : MS), Ole (x_workParts k b L σ) (x_workParts (k + 1) b L σ) := by
  intro k
  induction k with
  | zero => intro b L σ; exact Ole_no _
  | succ k ih =>
    intro b L σ
    match b with
    | 0 =>
      refine Ole_eq (by rw [x_workParts]) (by rw [x_workParts]) ?_
      exact Ole_ob (f_nameOf k _ _ _) (fun _ => ih _ _ _)
    | 1 =>
      refine Ole_eq (by rw [x_workParts]) (by rw [x_workParts]) ?_
      exact Ole_ite (ih _ _ _) (Ole_ite (Ole_ite (Ole_ite (Ole_ob (f_eval k _ _ _) (fun _ => Ole_ite (Ole_ite (Ole_ite (Ole_ite (Ole_ob (f_eval k _ _ _) (fun _ => ih _ _ _)) (Ole_rf _)) (ih _ _ _)) (ih _ _ _)) (Ole_rf _))) (Ole_rf _)) (Ole_rf _)) (ih _ _ _))
    | 2 =>
      refine Ole_eq (by rw [x_workParts]) (by rw [x_workParts]) ?_
      exact Ole_rf _
    | b + 3 =>
      refine Ole_eq (by rw [x_workParts]) (by rw [x_workParts]) (Ole_no _)
theorem f_keysOf : ∀ (k b : Nat) (L : Nat → Int32) (σ : MS), Ole (x_keysOf k b L σ) (x_keysOf (k + 1) b L σ) := by
  intro k
  induction k with
  | zero => intro b L σ; exact Ole_no _
  | succ k ih =>
    intro b L σ
    match b with
    | 0 =>
      refine Ole_eq (by rw [x_keysOf]) (by rw [x_keysOf]) ?_
      exact Ole_ite (ih _ _ _) (ih _ _ _)
    | 1 =>
      refine Ole_eq (by rw [x_keysOf]) (by rw [x_keysOf]) ?_
      exact Ole_ite (ih _ _ _) (ih _ _ _)
    | 2 =>
      refine Ole_eq (by rw [x_keysOf]) (by rw [x_keysOf]) ?_
      exact ih _ _ _
    | 3 =>
      refine Ole_eq (by rw [x_keysOf]) (by rw [x_keysOf]) ?_
      exact Ole_rf _
    | b + 4 =>
      refine Ole_eq (by rw [x_keysOf]) (by rw [x_keysOf]) (Ole_no _)
theorem f_readParts : ∀ (k b : Nat) (L : Nat → Int32) (σ : MS), Ole (x_readParts k b L σ) (x_readParts (k + 1) b L σ) := by
  intro k
  induction k with
  | zero => intro b L σ; exact Ole_no _
  | succ k ih =>
    intro b L σ
    match b with
    | 0 =>
      refine Ole_eq (by rw [x_readParts]) (by rw [x_readParts]) ?_
      exact Ole_ob (f_nameOf k _ _ _) (fun _ => Ole_ob (f_valueOf k _ _ _) (fun _ => Ole_ob (f_push k _ _ _) (fun _ => ih _ _ _)))
    | 1 =>
      refine Ole_eq (by rw [x_readParts]) (by rw [x_readParts]) ?_
      exact Ole_ite (ih _ _ _) (Ole_ite (Ole_ite (Ole_ite (ih _ _ _) (ih _ _ _)) (Ole_rf _)) (ih _ _ _))
    | 2 =>
      refine Ole_eq (by rw [x_readParts]) (by rw [x_readParts]) ?_
      exact Ole_ite (Ole_ite (Ole_ob (f_sweep k _ _ _) (fun _ => Ole_ite (Ole_ite (Ole_ite (Ole_ite (Ole_ob (f_partAt k _ _ _) (fun _ => ih _ _ _)) (Ole_rf _)) (ih _ _ _)) (Ole_rf _)) (Ole_rf _))) (Ole_rf _)) (ih _ _ _)
    | 3 =>
      refine Ole_eq (by rw [x_readParts]) (by rw [x_readParts]) ?_
      exact Ole_ite (Ole_ite (Ole_ite (Ole_ob (f_image k _ _ _) (fun _ => ih _ _ _)) (Ole_rf _)) (ih _ _ _)) (Ole_rf _)
    | 4 =>
      refine Ole_eq (by rw [x_readParts]) (by rw [x_readParts]) ?_
      exact Ole_ite (Ole_ite (Ole_ob (f_slice k _ _ _) (fun _ => ih _ _ _)) (Ole_rf _)) (Ole_rf _)
    | 5 =>
      refine Ole_eq (by rw [x_readParts]) (by rw [x_readParts]) ?_
      exact Ole_ob (f_answer k _ _ _) (fun _ => Ole_ob (f_push k _ _ _) (fun _ => Ole_ite (Ole_ob (f_keysOf k _ _ _) (fun _ => ih _ _ _)) (Ole_rf _)))
    | 6 =>
      refine Ole_eq (by rw [x_readParts]) (by rw [x_readParts]) ?_
      exact Ole_rf _
    | b + 7 =>
      refine Ole_eq (by rw [x_readParts]) (by rw [x_readParts]) (Ole_no _)
theorem f_keysIn : ∀ (k b : Nat) (L : Nat → Int32) (σ : MS), Ole (x_keysIn k b L σ) (x_keysIn (k + 1) b L σ) := by
  intro k
  induction k with
  | zero => intro b L σ; exact Ole_no _
  | succ k ih =>
    intro b L σ
    match b with
    | 0 =>
      refine Ole_eq (by rw [x_keysIn]) (by rw [x_keysIn]) ?_
      exact ih _ _ _
    | 1 =>
      refine Ole_eq (by rw [x_keysIn]) (by rw [x_keysIn]) ?_
      exact Ole_ite (Ole_ite (ih _ _ _) (Ole_ite (Ole_ob (f_keysOf k _ _ _) (fun _ => Ole_ite (ih _ _ _) (Ole_rf _))) (Ole_rf _))) (Ole_rf _)
    | 2 =>
      refine Ole_eq (by rw [x_keysIn]) (by rw [x_keysIn]) ?_
      exact Ole_rf _
    | b + 3 =>
      refine Ole_eq (by rw [x_keysIn]) (by rw [x_keysIn]) (Ole_no _)
theorem f_putPlace : ∀ (k b : Nat) (L : Nat → Int32) (σ : MS), Ole (x_putPlace k b L σ) (x_putPlace (k + 1) b L σ) := by
  intro k
  induction k with
  | zero => intro b L σ; exact Ole_no _
  | succ k ih =>
    intro b L σ
    match b with
    | 0 =>
      refine Ole_eq (by rw [x_putPlace]) (by rw [x_putPlace]) ?_
      exact Ole_ite (Ole_ite (ih _ _ _) (Ole_ite (Ole_rf _) (ih _ _ _))) (Ole_rf _)
    | 1 =>
      refine Ole_eq (by rw [x_putPlace]) (by rw [x_putPlace]) ?_
      exact Ole_ite (ih _ _ _) (Ole_ob (f_fail k _ _ _) (fun _ => Ole_rf _))
    | 2 =>
      refine Ole_eq (by rw [x_putPlace]) (by rw [x_putPlace]) ?_
      exact ih _ _ _
    | 3 =>
      refine Ole_eq (by rw [x_putPlace]) (by rw [x_putPlace]) ?_
      exact Ole_ite (ih _ _ _) (Ole_ite (ih _ _ _) (ih _ _ _))
    | 4 =>
      refine Ole_eq (by rw [x_putPlace]) (by rw [x_putPlace]) ?_
      exact Ole_ite (ih _ _ _) (ih _ _ _)
    | 5 =>
      refine Ole_eq (by rw [x_putPlace]) (by rw [x_putPlace]) ?_
      exact Ole_ite (ih _ _ _) (Ole_ite (ih _ _ _) (Ole_rf _))
    | 6 =>
      refine Ole_eq (by rw [x_putPlace]) (by rw [x_putPlace]) ?_
      exact ih _ _ _
    | 7 =>
      refine Ole_eq (by rw [x_putPlace]) (by rw [x_putPlace]) ?_
      exact Ole_ob (f_push k _ _ _) (fun _ => ih _ _ _)
    | 8 =>
      refine Ole_eq (by rw [x_putPlace]) (by rw [x_putPlace]) ?_
      exact Ole_ob (f_tupleOf k _ _ _) (fun _ => Ole_rf _)
    | b + 9 =>
      refine Ole_eq (by rw [x_putPlace]) (by rw [x_putPlace]) (Ole_no _)
theorem f_pushOthers : ∀ (k b : Nat) (L : Nat → Int32) (σ : MS), Ole (x_pushOthers k b L σ) (x_pushOthers (k + 1) b L σ) := by
  intro k
  induction k with
  | zero => intro b L σ; exact Ole_no _
  | succ k ih =>
    intro b L σ
    match b with
    | 0 =>
      refine Ole_eq (by rw [x_pushOthers]) (by rw [x_pushOthers]) ?_
      exact ih _ _ _
    | 1 =>
      refine Ole_eq (by rw [x_pushOthers]) (by rw [x_pushOthers]) ?_
      exact Ole_ite (Ole_ite (ih _ _ _) (Ole_ite (Ole_ite (Ole_ob (f_compare k _ _ _) (fun _ => Ole_ite (ih _ _ _) (Ole_ob (f_push k _ _ _) (fun _ => ih _ _ _)))) (Ole_rf _)) (Ole_rf _))) (Ole_rf _)
    | 2 =>
      refine Ole_eq (by rw [x_pushOthers]) (by rw [x_pushOthers]) ?_
      exact ih _ _ _
    | 3 =>
      refine Ole_eq (by rw [x_pushOthers]) (by rw [x_pushOthers]) ?_
      exact Ole_rf _
    | b + 4 =>
      refine Ole_eq (by rw [x_pushOthers]) (by rw [x_pushOthers]) (Ole_no _)
theorem f_pair : ∀ (k b : Nat) (L : Nat → Int32) (σ : MS), Ole (x_pair k b L σ) (x_pair (k + 1) b L σ) := by
  intro k
  induction k with
  | zero => intro b L σ; exact Ole_no _
  | succ k ih =>
    intro b L σ
    match b with
    | 0 =>
      refine Ole_eq (by rw [x_pair]) (by rw [x_pair]) ?_
      exact Ole_ob (f_push k _ _ _) (fun _ => Ole_ob (f_push k _ _ _) (fun _ => Ole_ob (f_tupleOf k _ _ _) (fun _ => Ole_rf _)))
    | b + 1 =>
      refine Ole_eq (by rw [x_pair]) (by rw [x_pair]) (Ole_no _)
theorem f_putAt : ∀ (k b : Nat) (L : Nat → Int32) (σ : MS), Ole (x_putAt k b L σ) (x_putAt (k + 1) b L σ) := by
  intro k
  induction k with
  | zero => intro b L σ; exact Ole_no _
  | succ k ih =>
    intro b L σ
    match b with
    | 0 =>
      refine Ole_eq (by rw [x_putAt]) (by rw [x_putAt]) ?_
      exact Ole_ob (f_kind k _ _ _) (fun _ => Ole_ite (ih _ _ _) (Ole_ite (ih _ _ _) (ih _ _ _)))
    | 1 =>
      refine Ole_eq (by rw [x_putAt]) (by rw [x_putAt]) ?_
      exact Ole_ob (f_kind k _ _ _) (fun _ => Ole_ite (Ole_ite (Ole_ob (f_kind k _ _ _) (fun _ => Ole_ite (Ole_ite (Ole_ite (ih _ _ _) (ih _ _ _)) (Ole_rf _)) (ih _ _ _))) (ih _ _ _)) (ih _ _ _))
    | 2 =>
      refine Ole_eq (by rw [x_putAt]) (by rw [x_putAt]) ?_
      exact Ole_ob (f_wrongKind k _ _ _) (fun _ => Ole_rf _)
    | 3 =>
      refine Ole_eq (by rw [x_putAt]) (by rw [x_putAt]) ?_
      exact Ole_ob (f_intOf k _ _ _ _) (fun _ => Ole_ite (Ole_ite (ih _ _ _) (Ole_ite (Ole_ite (ih _ _ _) (ih _ _ _)) (ih _ _ _))) (Ole_rf _))
    | 4 =>
      refine Ole_eq (by rw [x_putAt]) (by rw [x_putAt]) ?_
      exact Ole_ob (f_fail k _ _ _) (fun _ => Ole_rf _)
    | 5 =>
      refine Ole_eq (by rw [x_putAt]) (by rw [x_putAt]) ?_
      exact Ole_ite (ih _ _ _) (ih _ _ _)
    | 6 =>
      refine Ole_eq (by rw [x_putAt]) (by rw [x_putAt]) ?_
      exact Ole_ite (ih _ _ _) (Ole_ite (Ole_ite (ih _ _ _) (Ole_rf _)) (Ole_rf _))
    | 7 =>
      refine Ole_eq (by rw [x_putAt]) (by rw [x_putAt]) ?_
      exact ih _ _ _
    | 8 =>
      refine Ole_eq (by rw [x_putAt]) (by rw [x_putAt]) ?_
      exact Ole_ite (Ole_ite (ih _ _ _) (Ole_rf _)) (Ole_rf _)
    | 9 =>
      refine Ole_eq (by rw [x_putAt]) (by rw [x_putAt]) ?_
      exact Ole_ite (ih _ _ _) (ih _ _ _)
    | 10 =>
      refine Ole_eq (by rw [x_putAt]) (by rw [x_putAt]) ?_
      exact ih _ _ _
    | 11 =>
      refine Ole_eq (by rw [x_putAt]) (by rw [x_putAt]) ?_
      exact Ole_ob (f_stringOf__51 k _ _ _) (fun _ => Ole_rf _)
    | 12 =>
      refine Ole_eq (by rw [x_putAt]) (by rw [x_putAt]) ?_
      exact Ole_ob (f_putPlace k _ _ _) (fun _ => Ole_rf _)
    | 13 =>
      refine Ole_eq (by rw [x_putAt]) (by rw [x_putAt]) ?_
      exact Ole_ob (f_isMap k _ _ _) (fun _ => Ole_ite (Ole_ob (f_wrongKind k _ _ _) (fun _ => Ole_rf _)) (ih _ _ _))
    | 14 =>
      refine Ole_eq (by rw [x_putAt]) (by rw [x_putAt]) ?_
      exact Ole_ob (f_pushOthers k _ _ _) (fun _ => Ole_ite (ih _ _ _) (Ole_ob (f_pair k _ _ _) (fun _ => Ole_ob (f_push k _ _ _) (fun _ => ih _ _ _))))
    | 15 =>
      refine Ole_eq (by rw [x_putAt]) (by rw [x_putAt]) ?_
      exact Ole_ite (ih _ _ _) (ih _ _ _)
    | 16 =>
      refine Ole_eq (by rw [x_putAt]) (by rw [x_putAt]) ?_
      exact Ole_ob (f_setOf k _ _ _) (fun _ => ih _ _ _)
    | 17 =>
      refine Ole_eq (by rw [x_putAt]) (by rw [x_putAt]) ?_
      exact Ole_rf _
    | b + 18 =>
      refine Ole_eq (by rw [x_putAt]) (by rw [x_putAt]) (Ole_no _)
theorem f_putImage : ∀ (k b : Nat) (L : Nat → Int32) (σ : MS), Ole (x_putImage k b L σ) (x_putImage (k + 1) b L σ) := by
  intro k
  induction k with
  | zero => intro b L σ; exact Ole_no _
  | succ k ih =>
    intro b L σ
    match b with
    | 0 =>
      refine Ole_eq (by rw [x_putImage]) (by rw [x_putImage]) ?_
      exact Ole_ob (f_isMap k _ _ _) (fun _ => Ole_ite (ih _ _ _) (Ole_ob (f_kind k _ _ _) (fun _ => Ole_ite (ih _ _ _) (ih _ _ _))))
    | 1 =>
      refine Ole_eq (by rw [x_putImage]) (by rw [x_putImage]) ?_
      exact Ole_ob (f_wrongKind k _ _ _) (fun _ => Ole_rf _)
    | 2 =>
      refine Ole_eq (by rw [x_putImage]) (by rw [x_putImage]) ?_
      exact Ole_ob (f_pushOthers k _ _ _) (fun _ => ih _ _ _)
    | 3 =>
      refine Ole_eq (by rw [x_putImage]) (by rw [x_putImage]) ?_
      exact Ole_ite (Ole_ite (ih _ _ _) (Ole_ite (Ole_ite (Ole_ob (f_pair k _ _ _) (fun _ => Ole_ob (f_push k _ _ _) (fun _ => ih _ _ _))) (Ole_rf _)) (ih _ _ _))) (Ole_rf _)
    | 4 =>
      refine Ole_eq (by rw [x_putImage]) (by rw [x_putImage]) ?_
      exact Ole_ite (ih _ _ _) (ih _ _ _)
    | 5 =>
      refine Ole_eq (by rw [x_putImage]) (by rw [x_putImage]) ?_
      exact Ole_ob (f_setOf k _ _ _) (fun _ => ih _ _ _)
    | 6 =>
      refine Ole_eq (by rw [x_putImage]) (by rw [x_putImage]) ?_
      exact Ole_rf _
    | b + 7 =>
      refine Ole_eq (by rw [x_putImage]) (by rw [x_putImage]) (Ole_no _)
theorem f_putSlice : ∀ (k b : Nat) (L : Nat → Int32) (σ : MS), Ole (x_putSlice k b L σ) (x_putSlice (k + 1) b L σ) := by
  intro k
  induction k with
  | zero => intro b L σ; exact Ole_no _
  | succ k ih =>
    intro b L σ
    match b with
    | 0 =>
      refine Ole_eq (by rw [x_putSlice]) (by rw [x_putSlice]) ?_
      exact Ole_ob (f_isSlice k _ _ _) (fun _ => Ole_ite (Ole_rf _) (ih _ _ _))
    | 1 =>
      refine Ole_eq (by rw [x_putSlice]) (by rw [x_putSlice]) ?_
      exact Ole_ob (f_kind k _ _ _) (fun _ => Ole_ob (f_kind k _ _ _) (fun _ => Ole_ite (ih _ _ _) (Ole_ob (f_wrongKind k _ _ _) (fun _ => Ole_rf _))))
    | 2 =>
      refine Ole_eq (by rw [x_putSlice]) (by rw [x_putSlice]) ?_
      exact Ole_ob (f_isSliceIn k _ _ _) (fun _ => Ole_ite (Ole_rf _) (ih _ _ _))
    | 3 =>
      refine Ole_eq (by rw [x_putSlice]) (by rw [x_putSlice]) ?_
      exact Ole_ite (Ole_ite (Ole_ite (Ole_ite (ih _ _ _) (ih _ _ _)) (Ole_rf _)) (Ole_rf _)) (Ole_rf _)
    | 4 =>
      refine Ole_eq (by rw [x_putSlice]) (by rw [x_putSlice]) ?_
      exact Ole_ite (ih _ _ _) (Ole_ite (Ole_ite (ih _ _ _) (Ole_rf _)) (Ole_rf _))
    | 5 =>
      refine Ole_eq (by rw [x_putSlice]) (by rw [x_putSlice]) ?_
      exact ih _ _ _
    | 6 =>
      refine Ole_eq (by rw [x_putSlice]) (by rw [x_putSlice]) ?_
      exact ih _ _ _
    | 7 =>
      refine Ole_eq (by rw [x_putSlice]) (by rw [x_putSlice]) ?_
      exact Ole_ite (ih _ _ _) (Ole_ite (Ole_ite (ih _ _ _) (Ole_rf _)) (Ole_rf _))
    | 8 =>
      refine Ole_eq (by rw [x_putSlice]) (by rw [x_putSlice]) ?_
      exact ih _ _ _
    | 9 =>
      refine Ole_eq (by rw [x_putSlice]) (by rw [x_putSlice]) ?_
      exact ih _ _ _
    | 10 =>
      refine Ole_eq (by rw [x_putSlice]) (by rw [x_putSlice]) ?_
      exact Ole_ite (ih _ _ _) (Ole_ite (Ole_ite (ih _ _ _) (Ole_rf _)) (Ole_rf _))
    | 11 =>
      refine Ole_eq (by rw [x_putSlice]) (by rw [x_putSlice]) ?_
      exact ih _ _ _
    | 12 =>
      refine Ole_eq (by rw [x_putSlice]) (by rw [x_putSlice]) ?_
      exact Ole_ob (f_stringOf__51 k _ _ _) (fun _ => Ole_rf _)
    | 13 =>
      refine Ole_eq (by rw [x_putSlice]) (by rw [x_putSlice]) ?_
      exact ih _ _ _
    | 14 =>
      refine Ole_eq (by rw [x_putSlice]) (by rw [x_putSlice]) ?_
      exact Ole_ite (ih _ _ _) (Ole_ite (Ole_ob (f_push k _ _ _) (fun _ => ih _ _ _)) (Ole_rf _))
    | 15 =>
      refine Ole_eq (by rw [x_putSlice]) (by rw [x_putSlice]) ?_
      exact ih _ _ _
    | 16 =>
      refine Ole_eq (by rw [x_putSlice]) (by rw [x_putSlice]) ?_
      exact Ole_ite (ih _ _ _) (Ole_ite (Ole_ob (f_push k _ _ _) (fun _ => ih _ _ _)) (Ole_rf _))
    | 17 =>
      refine Ole_eq (by rw [x_putSlice]) (by rw [x_putSlice]) ?_
      exact ih _ _ _
    | 18 =>
      refine Ole_eq (by rw [x_putSlice]) (by rw [x_putSlice]) ?_
      exact Ole_ite (ih _ _ _) (Ole_ite (Ole_ob (f_push k _ _ _) (fun _ => ih _ _ _)) (Ole_rf _))
    | 19 =>
      refine Ole_eq (by rw [x_putSlice]) (by rw [x_putSlice]) ?_
      exact Ole_ob (f_tupleOf k _ _ _) (fun _ => Ole_rf _)
    | b + 20 =>
      refine Ole_eq (by rw [x_putSlice]) (by rw [x_putSlice]) (Ole_no _)
theorem f_assign : ∀ (k b : Nat) (L : Nat → Int32) (σ : MS), Ole (x_assign k b L σ) (x_assign (k + 1) b L σ) := by
  intro k
  induction k with
  | zero => intro b L σ; exact Ole_no _
  | succ k ih =>
    intro b L σ
    match b with
    | 0 =>
      refine Ole_eq (by rw [x_assign]) (by rw [x_assign]) ?_
      exact Ole_ite (ih _ _ _) (Ole_rf _)
    | 1 =>
      refine Ole_eq (by rw [x_assign]) (by rw [x_assign]) ?_
      exact Ole_ob (f_valueOf k _ _ _) (fun _ => Ole_ob (f_size k _ _ _) (fun _ => Ole_ob (f_size k _ _ _) (fun _ => Ole_ite (ih _ _ _) (Ole_ob (f_fail k _ _ _) (fun _ => Ole_rf _)))))
    | 2 =>
      refine Ole_eq (by rw [x_assign]) (by rw [x_assign]) ?_
      exact Ole_ob (f_size k _ _ _) (fun _ => ih _ _ _)
    | 3 =>
      refine Ole_eq (by rw [x_assign]) (by rw [x_assign]) ?_
      exact Ole_ob (f_bindOne k _ _ _) (fun _ => Ole_rf _)
    | b + 4 =>
      refine Ole_eq (by rw [x_assign]) (by rw [x_assign]) (Ole_no _)
theorem f_write : ∀ (k b : Nat) (L : Nat → Int32) (σ : MS), Ole (x_write k b L σ) (x_write (k + 1) b L σ) := by
  intro k
  induction k with
  | zero => intro b L σ; exact Ole_no _
  | succ k ih =>
    intro b L σ
    match b with
    | 0 =>
      refine Ole_eq (by rw [x_write]) (by rw [x_write]) ?_
      exact Ole_ite (ih _ _ _) (Ole_rf _)
    | 1 =>
      refine Ole_eq (by rw [x_write]) (by rw [x_write]) ?_
      exact Ole_ob (f_readParts k _ _ _) (fun _ => Ole_ob (f_keysIn k _ _ _) (fun _ => Ole_ite (Ole_ob (f_push k _ _ _) (fun _ => ih _ _ _)) (Ole_rf _)))
    | 2 =>
      refine Ole_eq (by rw [x_write]) (by rw [x_write]) ?_
      exact Ole_ite (Ole_ite (ih _ _ _) (Ole_ite (Ole_ite (Ole_ob (f_keysOf k _ _ _) (fun _ => Ole_ob (f_sweep k _ _ _) (fun _ => Ole_ite (Ole_ite (Ole_ite (Ole_ite (Ole_ite (Ole_ob (f_putAt k _ _ _) (fun _ => ih _ _ _)) (Ole_rf _)) (Ole_rf _)) (ih _ _ _)) (Ole_rf _)) (Ole_rf _)))) (Ole_rf _)) (ih _ _ _))) (Ole_rf _)
    | 3 =>
      refine Ole_eq (by rw [x_write]) (by rw [x_write]) ?_
      exact Ole_ite (Ole_ite (Ole_ite (Ole_ite (Ole_ob (f_putImage k _ _ _) (fun _ => ih _ _ _)) (Ole_rf _)) (Ole_rf _)) (ih _ _ _)) (Ole_rf _)
    | 4 =>
      refine Ole_eq (by rw [x_write]) (by rw [x_write]) ?_
      exact Ole_ite (Ole_ite (Ole_ite (Ole_ob (f_putSlice k _ _ _) (fun _ => ih _ _ _)) (Ole_rf _)) (Ole_rf _)) (Ole_rf _)
    | 5 =>
      refine Ole_eq (by rw [x_write]) (by rw [x_write]) ?_
      exact Ole_ob (f_answer k _ _ _) (fun _ => Ole_ite (ih _ _ _) (Ole_rf _))
    | 6 =>
      refine Ole_eq (by rw [x_write]) (by rw [x_write]) ?_
      exact Ole_ite (ih _ _ _) (Ole_rf _)
    | 7 =>
      refine Ole_eq (by rw [x_write]) (by rw [x_write]) ?_
      exact ih _ _ _
    | 8 =>
      refine Ole_eq (by rw [x_write]) (by rw [x_write]) ?_
      exact Ole_ite (Ole_ite (Ole_ob (f_assign k _ _ _) (fun _ => ih _ _ _)) (Ole_rf _)) (ih _ _ _)
    | 9 =>
      refine Ole_eq (by rw [x_write]) (by rw [x_write]) ?_
      exact Ole_rf _
    | b + 10 =>
      refine Ole_eq (by rw [x_write]) (by rw [x_write]) (Ole_no _)
theorem f_dropIter : ∀ (k b : Nat) (L : Nat → Int32) (σ : MS), Ole (x_dropIter k b L σ) (x_dropIter (k + 1) b L σ) := by
  intro k
  induction k with
  | zero => intro b L σ; exact Ole_no _
  | succ k ih =>
    intro b L σ
    match b with
    | 0 =>
      refine Ole_eq (by rw [x_dropIter]) (by rw [x_dropIter]) ?_
      exact Ole_ite (Ole_ite (ih _ _ _) (Ole_rf _)) (Ole_rf _)
    | 1 =>
      refine Ole_eq (by rw [x_dropIter]) (by rw [x_dropIter]) ?_
      exact Ole_ite (Ole_ite (Ole_ob (f_size k _ _ _) (fun _ => Ole_rf _)) (Ole_rf _)) (Ole_rf _)
    | b + 2 =>
      refine Ole_eq (by rw [x_dropIter]) (by rw [x_dropIter]) (Ole_no _)
theorem f_closeFor : ∀ (k b : Nat) (L : Nat → Int32) (σ : MS), Ole (x_closeFor k b L σ) (x_closeFor (k + 1) b L σ) := by
  intro k
  induction k with
  | zero => intro b L σ; exact Ole_no _
  | succ k ih =>
    intro b L σ
    match b with
    | 0 =>
      refine Ole_eq (by rw [x_closeFor]) (by rw [x_closeFor]) ?_
      exact Ole_ite (ih _ _ _) (Ole_rf _)
    | 1 =>
      refine Ole_eq (by rw [x_closeFor]) (by rw [x_closeFor]) ?_
      exact Ole_ite (Ole_ite (Ole_ite (ih _ _ _) (Ole_ob (f_dropIter k _ _ _) (fun _ => ih _ _ _))) (Ole_rf _)) (Ole_rf _)
    | 2 =>
      refine Ole_eq (by rw [x_closeFor]) (by rw [x_closeFor]) ?_
      exact Ole_ite (Ole_ite (ih _ _ _) (Ole_rf _)) (Ole_rf _)
    | 3 =>
      refine Ole_eq (by rw [x_closeFor]) (by rw [x_closeFor]) ?_
      exact Ole_ite (Ole_ite (ih _ _ _) (Ole_rf _)) (Ole_rf _)
    | 4 =>
      refine Ole_eq (by rw [x_closeFor]) (by rw [x_closeFor]) ?_
      exact Ole_ite (ih _ _ _) (Ole_ite (ih _ _ _) (Ole_rf _))
    | 5 =>
      refine Ole_eq (by rw [x_closeFor]) (by rw [x_closeFor]) ?_
      exact Ole_ite (ih _ _ _) (Ole_ob (f_valueOf k _ _ _) (fun _ => Ole_ob (f_size k _ _ _) (fun _ => ih _ _ _)))
    | 6 =>
      refine Ole_eq (by rw [x_closeFor]) (by rw [x_closeFor]) ?_
      exact Ole_ob (f_bindOne k _ _ _) (fun _ => Ole_ite (ih _ _ _) (Ole_rf _))
    | 7 =>
      refine Ole_eq (by rw [x_closeFor]) (by rw [x_closeFor]) ?_
      exact Ole_ite (ih _ _ _) (Ole_rf _)
    | 8 =>
      refine Ole_eq (by rw [x_closeFor]) (by rw [x_closeFor]) ?_
      exact Ole_rf _
    | b + 9 =>
      refine Ole_eq (by rw [x_closeFor]) (by rw [x_closeFor]) (Ole_no _)
theorem f_writeWorked : ∀ (k b : Nat) (L : Nat → Int32) (σ : MS), Ole (x_writeWorked k b L σ) (x_writeWorked (k + 1) b L σ) := by
  intro k
  induction k with
  | zero => intro b L σ; exact Ole_no _
  | succ k ih =>
    intro b L σ
    match b with
    | 0 =>
      refine Ole_eq (by rw [x_writeWorked]) (by rw [x_writeWorked]) ?_
      exact Ole_ob (f_workParts k _ _ _) (fun _ => Ole_ob (f_write k _ _ _) (fun _ => Ole_rf _))
    | b + 1 =>
      refine Ole_eq (by rw [x_writeWorked]) (by rw [x_writeWorked]) (Ole_no _)
theorem f_giveBack : ∀ (k b : Nat) (L : Nat → Int32) (σ : MS), Ole (x_giveBack k b L σ) (x_giveBack (k + 1) b L σ) := by
  intro k
  induction k with
  | zero => intro b L σ; exact Ole_no _
  | succ k ih =>
    intro b L σ
    match b with
    | 0 =>
      refine Ole_eq (by rw [x_giveBack]) (by rw [x_giveBack]) ?_
      exact Ole_ite (Ole_ite (Ole_ite (ih _ _ _) (Ole_rf _)) (Ole_rf _)) (Ole_rf _)
    | 1 =>
      refine Ole_eq (by rw [x_giveBack]) (by rw [x_giveBack]) ?_
      exact Ole_ite (Ole_ite (Ole_ite (ih _ _ _) (Ole_ob (f_closeFor k _ _ _) (fun _ => ih _ _ _))) (Ole_rf _)) (Ole_rf _)
    | 2 =>
      refine Ole_eq (by rw [x_giveBack]) (by rw [x_giveBack]) ?_
      exact ih _ _ _
    | 3 =>
      refine Ole_eq (by rw [x_giveBack]) (by rw [x_giveBack]) ?_
      exact Ole_ite (Ole_ite (ih _ _ _) (Ole_ite (Ole_ob (f_push k _ _ _) (fun _ => ih _ _ _)) (Ole_rf _))) (Ole_rf _)
    | 4 =>
      refine Ole_eq (by rw [x_giveBack]) (by rw [x_giveBack]) ?_
      exact Ole_ob (f_push k _ _ _) (fun _ => ih _ _ _)
    | 5 =>
      refine Ole_eq (by rw [x_giveBack]) (by rw [x_giveBack]) ?_
      exact Ole_ite (Ole_ite (ih _ _ _) (Ole_ite (Ole_ite (ih _ _ _) (Ole_ite (Ole_ob (f_size k _ _ _) (fun _ => ih _ _ _)) (Ole_rf _))) (Ole_rf _))) (Ole_rf _)
    | 6 =>
      refine Ole_eq (by rw [x_giveBack]) (by rw [x_giveBack]) ?_
      exact ih _ _ _
    | 7 =>
      refine Ole_eq (by rw [x_giveBack]) (by rw [x_giveBack]) ?_
      exact ih _ _ _
    | 8 =>
      refine Ole_eq (by rw [x_giveBack]) (by rw [x_giveBack]) ?_
      exact ih _ _ _
    | 9 =>
      refine Ole_eq (by rw [x_giveBack]) (by rw [x_giveBack]) ?_
      exact Ole_ite (Ole_ite (ih _ _ _) (Ole_rf _)) (Ole_rf _)
    | 10 =>
      refine Ole_eq (by rw [x_giveBack]) (by rw [x_giveBack]) ?_
      exact Ole_ite (ih _ _ _) (Ole_rf _)
    | 11 =>
      refine Ole_eq (by rw [x_giveBack]) (by rw [x_giveBack]) ?_
      exact Ole_ite (ih _ _ _) (Ole_ite (Ole_ite (Ole_ite (ih _ _ _) (Ole_ob (f_writeWorked k _ _ _) (fun _ => ih _ _ _))) (Ole_rf _)) (ih _ _ _))
    | 12 =>
      refine Ole_eq (by rw [x_giveBack]) (by rw [x_giveBack]) ?_
      exact Ole_ite (ih _ _ _) (Ole_rf _)
    | 13 =>
      refine Ole_eq (by rw [x_giveBack]) (by rw [x_giveBack]) ?_
      exact Ole_ite (Ole_ite (Ole_ite (ih _ _ _) (Ole_ite (Ole_ite (Ole_ob (f_writeWorked k _ _ _) (fun _ => ih _ _ _)) (Ole_rf _)) (Ole_rf _))) (Ole_rf _)) (ih _ _ _)
    | 14 =>
      refine Ole_eq (by rw [x_giveBack]) (by rw [x_giveBack]) ?_
      exact ih _ _ _
    | 15 =>
      refine Ole_eq (by rw [x_giveBack]) (by rw [x_giveBack]) ?_
      exact Ole_ite (ih _ _ _) (ih _ _ _)
    | 16 =>
      refine Ole_eq (by rw [x_giveBack]) (by rw [x_giveBack]) ?_
      exact ih _ _ _
    | 17 =>
      refine Ole_eq (by rw [x_giveBack]) (by rw [x_giveBack]) ?_
      exact Ole_rf _
    | b + 18 =>
      refine Ole_eq (by rw [x_giveBack]) (by rw [x_giveBack]) (Ole_no _)
theorem f_iterOf : ∀ (k b : Nat) (L : Nat → Int32) (σ : MS), Ole (x_iterOf k b L σ) (x_iterOf (k + 1) b L σ) := by
  intro k
  induction k with
  | zero => intro b L σ; exact Ole_no _
  | succ k ih =>
    intro b L σ
    match b with
    | 0 =>
      refine Ole_eq (by rw [x_iterOf]) (by rw [x_iterOf]) ?_
      exact Ole_ite (ih _ _ _) (Ole_rf _)
    | 1 =>
      refine Ole_eq (by rw [x_iterOf]) (by rw [x_iterOf]) ?_
      exact Ole_ite (ih _ _ _) (Ole_ite (ih _ _ _) (Ole_rf _))
    | 2 =>
      refine Ole_eq (by rw [x_iterOf]) (by rw [x_iterOf]) ?_
      exact Ole_rf _
    | b + 3 =>
      refine Ole_eq (by rw [x_iterOf]) (by rw [x_iterOf]) (Ole_no _)
theorem f_openFor : ∀ (k b : Nat) (L : Nat → Int32) (σ : MS), Ole (x_openFor k b L σ) (x_openFor (k + 1) b L σ) := by
  intro k
  induction k with
  | zero => intro b L σ; exact Ole_no _
  | succ k ih =>
    intro b L σ
    match b with
    | 0 =>
      refine Ole_eq (by rw [x_openFor]) (by rw [x_openFor]) ?_
      exact Ole_ite (Ole_ob (f_eval k _ _ _) (fun _ => Ole_ite (ih _ _ _) (Ole_rf _))) (Ole_rf _)
    | 1 =>
      refine Ole_eq (by rw [x_openFor]) (by rw [x_openFor]) ?_
      exact Ole_ob (f_pop k _ _ _) (fun _ => Ole_ob (f_isRow k _ _ _) (fun _ => Ole_ite (Ole_ob (f_fail k _ _ _) (fun _ => Ole_rf _)) (ih _ _ _)))
    | 2 =>
      refine Ole_eq (by rw [x_openFor]) (by rw [x_openFor]) ?_
      exact Ole_ob (f_size k _ _ _) (fun _ => Ole_ite (ih _ _ _) (Ole_ob (f_fail k _ _ _) (fun _ => Ole_rf _)))
    | 3 =>
      refine Ole_eq (by rw [x_openFor]) (by rw [x_openFor]) ?_
      exact Ole_ob (f_size k _ _ _) (fun _ => ih _ _ _)
    | 4 =>
      refine Ole_eq (by rw [x_openFor]) (by rw [x_openFor]) ?_
      exact Ole_ite (Ole_ite (ih _ _ _) (Ole_rf _)) (Ole_rf _)
    | 5 =>
      refine Ole_eq (by rw [x_openFor]) (by rw [x_openFor]) ?_
      exact Ole_ite (Ole_ite (ih _ _ _) (Ole_rf _)) (Ole_rf _)
    | 6 =>
      refine Ole_eq (by rw [x_openFor]) (by rw [x_openFor]) ?_
      exact Ole_ite (Ole_ite (Ole_rf _) (Ole_rf _)) (Ole_rf _)
    | b + 7 =>
      refine Ole_eq (by rw [x_openFor]) (by rw [x_openFor]) (Ole_no _)
theorem f_stepFor : ∀ (k b : Nat) (L : Nat → Int32) (σ : MS), Ole (x_stepFor k b L σ) (x_stepFor (k + 1) b L σ) := by
  intro k
  induction k with
  | zero => intro b L σ; exact Ole_no _
  | succ k ih =>
    intro b L σ
    match b with
    | 0 =>
      refine Ole_eq (by rw [x_stepFor]) (by rw [x_stepFor]) ?_
      exact Ole_ite (Ole_ite (Ole_ite (Ole_ite (Ole_ite (Ole_rf _) (ih _ _ _)) (Ole_rf _)) (Ole_rf _)) (Ole_rf _)) (Ole_rf _)
    | 1 =>
      refine Ole_eq (by rw [x_stepFor]) (by rw [x_stepFor]) ?_
      exact Ole_ite (ih _ _ _) (Ole_rf _)
    | 2 =>
      refine Ole_eq (by rw [x_stepFor]) (by rw [x_stepFor]) ?_
      exact Ole_ob (f_worked k _ _ _) (fun _ => Ole_ite (ih _ _ _) (Ole_rf _))
    | 3 =>
      refine Ole_eq (by rw [x_stepFor]) (by rw [x_stepFor]) ?_
      exact Ole_ob (f_memberAt k _ _ _) (fun _ => Ole_ite (Ole_ite (Ole_ite (Ole_ob (f_assign k _ _ _) (fun _ => Ole_ite (ih _ _ _) (ih _ _ _))) (Ole_rf _)) (ih _ _ _)) (Ole_rf _))
    | 4 =>
      refine Ole_eq (by rw [x_stepFor]) (by rw [x_stepFor]) ?_
      exact ih _ _ _
    | 5 =>
      refine Ole_eq (by rw [x_stepFor]) (by rw [x_stepFor]) ?_
      exact Ole_ite (Ole_rf _) (Ole_rf _)
    | 6 =>
      refine Ole_eq (by rw [x_stepFor]) (by rw [x_stepFor]) ?_
      exact Ole_ite (ih _ _ _) (Ole_rf _)
    | 7 =>
      refine Ole_eq (by rw [x_stepFor]) (by rw [x_stepFor]) ?_
      exact Ole_ite (ih _ _ _) (Ole_ite (ih _ _ _) (Ole_rf _))
    | 8 =>
      refine Ole_eq (by rw [x_stepFor]) (by rw [x_stepFor]) ?_
      exact Ole_ob (f_kind k _ _ _) (fun _ => Ole_ite (Ole_ite (Ole_ite (ih _ _ _) (ih _ _ _)) (Ole_rf _)) (ih _ _ _))
    | 9 =>
      refine Ole_eq (by rw [x_stepFor]) (by rw [x_stepFor]) ?_
      exact Ole_ob (f_fail k _ _ _) (fun _ => Ole_rf _)
    | 10 =>
      refine Ole_eq (by rw [x_stepFor]) (by rw [x_stepFor]) ?_
      exact Ole_ite (ih _ _ _) (Ole_rf _)
    | 11 =>
      refine Ole_eq (by rw [x_stepFor]) (by rw [x_stepFor]) ?_
      exact Ole_ite (ih _ _ _) (Ole_ite (Ole_ite (ih _ _ _) (Ole_ite (ih _ _ _) (Ole_rf _))) (Ole_rf _))
    | 12 =>
      refine Ole_eq (by rw [x_stepFor]) (by rw [x_stepFor]) ?_
      exact ih _ _ _
    | 13 =>
      refine Ole_eq (by rw [x_stepFor]) (by rw [x_stepFor]) ?_
      exact Ole_ob (f_assign k _ _ _) (fun _ => Ole_ite (ih _ _ _) (Ole_rf _))
    | 14 =>
      refine Ole_eq (by rw [x_stepFor]) (by rw [x_stepFor]) ?_
      exact Ole_ite (ih _ _ _) (ih _ _ _)
    | 15 =>
      refine Ole_eq (by rw [x_stepFor]) (by rw [x_stepFor]) ?_
      exact ih _ _ _
    | 16 =>
      refine Ole_eq (by rw [x_stepFor]) (by rw [x_stepFor]) ?_
      exact Ole_ite (Ole_rf _) (Ole_rf _)
    | b + 17 =>
      refine Ole_eq (by rw [x_stepFor]) (by rw [x_stepFor]) (Ole_no _)
theorem f_nextTurn : ∀ (k b : Nat) (L : Nat → Int32) (σ : MS), Ole (x_nextTurn k b L σ) (x_nextTurn (k + 1) b L σ) := by
  intro k
  induction k with
  | zero => intro b L σ; exact Ole_no _
  | succ k ih =>
    intro b L σ
    match b with
    | 0 =>
      refine Ole_eq (by rw [x_nextTurn]) (by rw [x_nextTurn]) ?_
      exact ih _ _ _
    | 1 =>
      refine Ole_eq (by rw [x_nextTurn]) (by rw [x_nextTurn]) ?_
      exact Ole_ite (Ole_ob (f_sweep k _ _ _) (fun _ => Ole_ite (Ole_ite (ih _ _ _) (Ole_ob (f_iterOf k _ _ _) (fun _ => Ole_ob (f_openFor k _ _ _) (fun _ => Ole_ite (ih _ _ _) (Ole_rf _))))) (Ole_rf _))) (ih _ _ _)
    | 2 =>
      refine Ole_eq (by rw [x_nextTurn]) (by rw [x_nextTurn]) ?_
      exact Ole_ite (Ole_rf _) (ih _ _ _)
    | 3 =>
      refine Ole_eq (by rw [x_nextTurn]) (by rw [x_nextTurn]) ?_
      exact Ole_ob (f_iterOf k _ _ _) (fun _ => Ole_ob (f_stepFor k _ _ _) (fun _ => Ole_ite (Ole_ite (Ole_ob (f_dropIter k _ _ _) (fun _ => ih _ _ _)) (ih _ _ _)) (ih _ _ _)))
    | 4 =>
      refine Ole_eq (by rw [x_nextTurn]) (by rw [x_nextTurn]) ?_
      exact Ole_ite (ih _ _ _) (Ole_ite (Ole_ite (Ole_rf _) (ih _ _ _)) (Ole_rf _))
    | 5 =>
      refine Ole_eq (by rw [x_nextTurn]) (by rw [x_nextTurn]) ?_
      exact ih _ _ _
    | 6 =>
      refine Ole_eq (by rw [x_nextTurn]) (by rw [x_nextTurn]) ?_
      exact Ole_rf _
    | b + 7 =>
      refine Ole_eq (by rw [x_nextTurn]) (by rw [x_nextTurn]) (Ole_no _)
theorem f_holds (k b : Nat) (L : Nat → Int32) (σ : MS) : Ole (x_holds k b L σ) (x_holds (k + 1) b L σ) := f_GV k 1300 8 b L σ
theorem f_seek : ∀ (k b : Nat) (L : Nat → Int32) (σ : MS), Ole (x_seek k b L σ) (x_seek (k + 1) b L σ) := by
  intro k
  induction k with
  | zero => intro b L σ; exact Ole_no _
  | succ k ih =>
    intro b L σ
    match b with
    | 0 =>
      refine Ole_eq (by rw [x_seek]) (by rw [x_seek]) ?_
      exact Ole_ite (Ole_ite (Ole_ob (f_nextTurn k _ _ _) (fun _ => ih _ _ _)) (Ole_rf _)) (Ole_rf _)
    | 1 =>
      refine Ole_eq (by rw [x_seek]) (by rw [x_seek]) ?_
      exact Ole_ite (ih _ _ _) (Ole_ite (Ole_ite (Ole_ite (ih _ _ _) (Ole_ite (Ole_ite (ih _ _ _) (ih _ _ _)) (Ole_rf _))) (Ole_rf _)) (ih _ _ _))
    | 2 =>
      refine Ole_eq (by rw [x_seek]) (by rw [x_seek]) ?_
      exact Ole_ite (Ole_ite (ih _ _ _) (Ole_ite (Ole_ob (f_holds k _ _ _) (fun _ => Ole_ite (ih _ _ _) (ih _ _ _))) (Ole_rf _))) (Ole_rf _)
    | 3 =>
      refine Ole_eq (by rw [x_seek]) (by rw [x_seek]) ?_
      exact ih _ _ _
    | 4 =>
      refine Ole_eq (by rw [x_seek]) (by rw [x_seek]) ?_
      exact ih _ _ _
    | 5 =>
      refine Ole_eq (by rw [x_seek]) (by rw [x_seek]) ?_
      exact Ole_ite (ih _ _ _) (Ole_ite (Ole_ite (ih _ _ _) (ih _ _ _)) (Ole_rf _))
    | 6 =>
      refine Ole_eq (by rw [x_seek]) (by rw [x_seek]) ?_
      exact Ole_ite (Ole_ob (f_nextTurn k _ _ _) (fun _ => Ole_ite (ih _ _ _) (ih _ _ _))) (ih _ _ _)
    | 7 =>
      refine Ole_eq (by rw [x_seek]) (by rw [x_seek]) ?_
      exact ih _ _ _
    | 8 =>
      refine Ole_eq (by rw [x_seek]) (by rw [x_seek]) ?_
      exact ih _ _ _
    | 9 =>
      refine Ole_eq (by rw [x_seek]) (by rw [x_seek]) ?_
      exact Ole_ite (ih _ _ _) (Ole_rf _)
    | 10 =>
      refine Ole_eq (by rw [x_seek]) (by rw [x_seek]) ?_
      exact Ole_ite (ih _ _ _) (Ole_ite (Ole_ite (ih _ _ _) (Ole_rf _)) (Ole_rf _))
    | 11 =>
      refine Ole_eq (by rw [x_seek]) (by rw [x_seek]) ?_
      exact Ole_rf _
    | 12 =>
      refine Ole_eq (by rw [x_seek]) (by rw [x_seek]) ?_
      exact Ole_ob (f_closeFor k _ _ _) (fun _ => Ole_rf _)
    | b + 13 =>
      refine Ole_eq (by rw [x_seek]) (by rw [x_seek]) (Ole_no _)
theorem f_done : ∀ (k b : Nat) (L : Nat → Int32) (σ : MS), Ole (x_done k b L σ) (x_done (k + 1) b L σ) := by
  intro k
  induction k with
  | zero => intro b L σ; exact Ole_no _
  | succ k ih =>
    intro b L σ
    match b with
    | 0 =>
      refine Ole_eq (by rw [x_done]) (by rw [x_done]) ?_
      exact Ole_ite (ih _ _ _) (Ole_rf _)
    | 1 =>
      refine Ole_eq (by rw [x_done]) (by rw [x_done]) ?_
      exact Ole_ite (Ole_ite (Ole_ite (ih _ _ _) (Ole_ob (f_giveBack k _ _ _) (fun _ => Ole_rf _))) (Ole_rf _)) (ih _ _ _)
    | 2 =>
      refine Ole_eq (by rw [x_done]) (by rw [x_done]) ?_
      exact ih _ _ _
    | 3 =>
      refine Ole_eq (by rw [x_done]) (by rw [x_done]) ?_
      exact Ole_rf _
    | 4 =>
      refine Ole_eq (by rw [x_done]) (by rw [x_done]) ?_
      exact Ole_ite (Ole_ite (Ole_ite (ih _ _ _) (Ole_rf _)) (ih _ _ _)) (Ole_rf _)
    | 5 =>
      refine Ole_eq (by rw [x_done]) (by rw [x_done]) ?_
      exact Ole_rf _
    | 6 =>
      refine Ole_eq (by rw [x_done]) (by rw [x_done]) ?_
      exact Ole_ite (Ole_ite (Ole_ob (f_seek k _ _ _) (fun _ => ih _ _ _)) (ih _ _ _)) (Ole_rf _)
    | 7 =>
      refine Ole_eq (by rw [x_done]) (by rw [x_done]) ?_
      exact ih _ _ _
    | 8 =>
      refine Ole_eq (by rw [x_done]) (by rw [x_done]) ?_
      exact Ole_rf _
    | b + 9 =>
      refine Ole_eq (by rw [x_done]) (by rw [x_done]) (Ole_no _)
theorem f_finished : ∀ (k b : Nat) (L : Nat → Int32) (σ : MS), Ole (x_finished k b L σ) (x_finished (k + 1) b L σ) := by
  intro k
  induction k with
  | zero => intro b L σ; exact Ole_no _
  | succ k ih =>
    intro b L σ
    match b with
    | 0 =>
      refine Ole_eq (by rw [x_finished]) (by rw [x_finished]) ?_
      exact ih _ _ _
    | 1 =>
      refine Ole_eq (by rw [x_finished]) (by rw [x_finished]) ?_
      exact Ole_ite (ih _ _ _) (Ole_ob (f_done k _ _ _) (fun _ => Ole_ite (ih _ _ _) (ih _ _ _)))
    | 2 =>
      refine Ole_eq (by rw [x_finished]) (by rw [x_finished]) ?_
      exact ih _ _ _
    | 3 =>
      refine Ole_eq (by rw [x_finished]) (by rw [x_finished]) ?_
      exact Ole_ite (ih _ _ _) (Ole_ite (Ole_ite (ih _ _ _) (Ole_ite (Ole_ite (ih _ _ _) (Ole_rf _)) (Ole_rf _))) (Ole_rf _))
    | 4 =>
      refine Ole_eq (by rw [x_finished]) (by rw [x_finished]) ?_
      exact ih _ _ _
    | 5 =>
      refine Ole_eq (by rw [x_finished]) (by rw [x_finished]) ?_
      exact Ole_ite (ih _ _ _) (Ole_ite (Ole_ite (ih _ _ _) (Ole_rf _)) (Ole_rf _))
    | 6 =>
      refine Ole_eq (by rw [x_finished]) (by rw [x_finished]) ?_
      exact ih _ _ _
    | 7 =>
      refine Ole_eq (by rw [x_finished]) (by rw [x_finished]) ?_
      exact Ole_rf _
    | b + 8 =>
      refine Ole_eq (by rw [x_finished]) (by rw [x_finished]) (Ole_no _)
theorem f_goOnBehind : ∀ (k b : Nat) (L : Nat → Int32) (σ : MS), Ole (x_goOnBehind k b L σ) (x_goOnBehind (k + 1) b L σ) := by
  intro k
  induction k with
  | zero => intro b L σ; exact Ole_no _
  | succ k ih =>
    intro b L σ
    match b with
    | 0 =>
      refine Ole_eq (by rw [x_goOnBehind]) (by rw [x_goOnBehind]) ?_
      exact Ole_ite (Ole_rf _) (ih _ _ _)
    | 1 =>
      refine Ole_eq (by rw [x_goOnBehind]) (by rw [x_goOnBehind]) ?_
      exact Ole_ite (Ole_ite (ih _ _ _) (Ole_ite (Ole_ite (ih _ _ _) (Ole_rf _)) (Ole_rf _))) (Ole_rf _)
    | 2 =>
      refine Ole_eq (by rw [x_goOnBehind]) (by rw [x_goOnBehind]) ?_
      exact Ole_ite (Ole_ite (Ole_ob (f_finished k _ _ _) (fun _ => ih _ _ _)) (Ole_rf _)) (Ole_rf _)
    | 3 =>
      refine Ole_eq (by rw [x_goOnBehind]) (by rw [x_goOnBehind]) ?_
      exact Ole_rf _
    | b + 4 =>
      refine Ole_eq (by rw [x_goOnBehind]) (by rw [x_goOnBehind]) (Ole_no _)
theorem f_pass : ∀ (k b : Nat) (L : Nat → Int32) (σ : MS), Ole (x_pass k b L σ) (x_pass (k + 1) b L σ) := by
  intro k
  induction k with
  | zero => intro b L σ; exact Ole_no _
  | succ k ih =>
    intro b L σ
    match b with
    | 0 =>
      refine Ole_eq (by rw [x_pass]) (by rw [x_pass]) ?_
      exact Ole_ite (Ole_ob (f_goOnBehind k _ _ _) (fun _ => ih _ _ _)) (ih _ _ _)
    | 1 =>
      refine Ole_eq (by rw [x_pass]) (by rw [x_pass]) ?_
      exact Ole_rf _
    | b + 2 =>
      refine Ole_eq (by rw [x_pass]) (by rw [x_pass]) (Ole_no _)
theorem f_assignTo : ∀ (k b : Nat) (L : Nat → Int32) (σ : MS), Ole (x_assignTo k b L σ) (x_assignTo (k + 1) b L σ) := by
  intro k
  induction k with
  | zero => intro b L σ; exact Ole_no _
  | succ k ih =>
    intro b L σ
    match b with
    | 0 =>
      refine Ole_eq (by rw [x_assignTo]) (by rw [x_assignTo]) ?_
      exact Ole_ite (Ole_ob (f_workParts k _ _ _) (fun _ => Ole_ite (Ole_ite (Ole_ob (f_eval k _ _ _) (fun _ => ih _ _ _)) (Ole_rf _)) (ih _ _ _))) (Ole_rf _)
    | 1 =>
      refine Ole_eq (by rw [x_assignTo]) (by rw [x_assignTo]) ?_
      exact Ole_ite (ih _ _ _) (Ole_rf _)
    | 2 =>
      refine Ole_eq (by rw [x_assignTo]) (by rw [x_assignTo]) ?_
      exact Ole_ite (Ole_ite (Ole_ob (f_readParts k _ _ _) (fun _ => Ole_ite (Ole_ob (f_sweep k _ _ _) (fun _ => Ole_ite (Ole_ite (Ole_ite (Ole_ob (f_operate k _ _ _) (fun _ => Ole_ob (f_answer k _ _ _) (fun _ => Ole_ite (ih _ _ _) (Ole_rf _)))) (Ole_rf _)) (Ole_rf _)) (Ole_rf _))) (ih _ _ _))) (ih _ _ _)) (Ole_rf _)
    | 3 =>
      refine Ole_eq (by rw [x_assignTo]) (by rw [x_assignTo]) ?_
      exact ih _ _ _
    | 4 =>
      refine Ole_eq (by rw [x_assignTo]) (by rw [x_assignTo]) ?_
      exact Ole_ob (f_write k _ _ _) (fun _ => Ole_ob (f_pass k _ _ _) (fun _ => Ole_rf _))
    | b + 5 =>
      refine Ole_eq (by rw [x_assignTo]) (by rw [x_assignTo]) (Ole_no _)
theorem f_partsTo : ∀ (k b : Nat) (L : Nat → Int32) (σ : MS), Ole (x_partsTo k b L σ) (x_partsTo (k + 1) b L σ) := by
  intro k
  induction k with
  | zero => intro b L σ; exact Ole_no _
  | succ k ih =>
    intro b L σ
    match b with
    | 0 =>
      refine Ole_eq (by rw [x_partsTo]) (by rw [x_partsTo]) ?_
      exact Ole_ite (ih _ _ _) (Ole_rf _)
    | 1 =>
      refine Ole_eq (by rw [x_partsTo]) (by rw [x_partsTo]) ?_
      exact Ole_ite (ih _ _ _) (Ole_ite (Ole_ite (Ole_ite (ih _ _ _) (Ole_ob (f_workParts k _ _ _) (fun _ => ih _ _ _))) (Ole_rf _)) (ih _ _ _))
    | 2 =>
      refine Ole_eq (by rw [x_partsTo]) (by rw [x_partsTo]) ?_
      exact Ole_ite (ih _ _ _) (Ole_rf _)
    | 3 =>
      refine Ole_eq (by rw [x_partsTo]) (by rw [x_partsTo]) ?_
      exact Ole_ite (Ole_ite (Ole_ob (f_eval k _ _ _) (fun _ => ih _ _ _)) (Ole_rf _)) (ih _ _ _)
    | 4 =>
      refine Ole_eq (by rw [x_partsTo]) (by rw [x_partsTo]) ?_
      exact Ole_ite (ih _ _ _) (Ole_rf _)
    | 5 =>
      refine Ole_eq (by rw [x_partsTo]) (by rw [x_partsTo]) ?_
      exact Ole_ite (Ole_ob (f_kind k _ _ _) (fun _ => Ole_ite (ih _ _ _) (Ole_ob (f_fail k _ _ _) (fun _ => Ole_rf _)))) (Ole_rf _)
    | 6 =>
      refine Ole_eq (by rw [x_partsTo]) (by rw [x_partsTo]) ?_
      exact Ole_ite (ih _ _ _) (Ole_rf _)
    | 7 =>
      refine Ole_eq (by rw [x_partsTo]) (by rw [x_partsTo]) ?_
      exact Ole_ite (ih _ _ _) (Ole_ite (Ole_ite (Ole_ite (ih _ _ _) (Ole_ite (Ole_ite (Ole_ite (ih _ _ _) (Ole_ite (ih _ _ _) (Ole_rf _))) (Ole_rf _)) (Ole_rf _))) (Ole_rf _)) (ih _ _ _))
    | 8 =>
      refine Ole_eq (by rw [x_partsTo]) (by rw [x_partsTo]) ?_
      exact ih _ _ _
    | 9 =>
      refine Ole_eq (by rw [x_partsTo]) (by rw [x_partsTo]) ?_
      exact Ole_ob (f_push k _ _ _) (fun _ => Ole_ob (f_write k _ _ _) (fun _ => ih _ _ _))
    | 10 =>
      refine Ole_eq (by rw [x_partsTo]) (by rw [x_partsTo]) ?_
      exact Ole_ob (f_keysIn k _ _ _) (fun _ => ih _ _ _)
    | 11 =>
      refine Ole_eq (by rw [x_partsTo]) (by rw [x_partsTo]) ?_
      exact Ole_ite (ih _ _ _) (Ole_rf _)
    | 12 =>
      refine Ole_eq (by rw [x_partsTo]) (by rw [x_partsTo]) ?_
      exact Ole_ob (f_pass k _ _ _) (fun _ => Ole_rf _)
    | b + 13 =>
      refine Ole_eq (by rw [x_partsTo]) (by rw [x_partsTo]) (Ole_no _)
theorem f_without : ∀ (k b : Nat) (L : Nat → Int32) (σ : MS), Ole (x_without k b L σ) (x_without (k + 1) b L σ) := by
  intro k
  induction k with
  | zero => intro b L σ; exact Ole_no _
  | succ k ih =>
    intro b L σ
    match b with
    | 0 =>
      refine Ole_eq (by rw [x_without]) (by rw [x_without]) ?_
      exact Ole_ite (Ole_ite (Ole_ite (ih _ _ _) (ih _ _ _)) (Ole_rf _)) (Ole_rf _)
    | 1 =>
      refine Ole_eq (by rw [x_without]) (by rw [x_without]) ?_
      exact Ole_ite (ih _ _ _) (Ole_ite (Ole_ite (ih _ _ _) (Ole_rf _)) (Ole_rf _))
    | 2 =>
      refine Ole_eq (by rw [x_without]) (by rw [x_without]) ?_
      exact Ole_ite (ih _ _ _) (ih _ _ _)
    | 3 =>
      refine Ole_eq (by rw [x_without]) (by rw [x_without]) ?_
      exact ih _ _ _
    | 4 =>
      refine Ole_eq (by rw [x_without]) (by rw [x_without]) ?_
      exact ih _ _ _
    | 5 =>
      refine Ole_eq (by rw [x_without]) (by rw [x_without]) ?_
      exact Ole_ob (f_stringOf__51 k _ _ _) (fun _ => Ole_rf _)
    | 6 =>
      refine Ole_eq (by rw [x_without]) (by rw [x_without]) ?_
      exact ih _ _ _
    | 7 =>
      refine Ole_eq (by rw [x_without]) (by rw [x_without]) ?_
      exact Ole_ite (ih _ _ _) (Ole_ite (ih _ _ _) (Ole_ite (Ole_ob (f_push k _ _ _) (fun _ => ih _ _ _)) (Ole_rf _)))
    | 8 =>
      refine Ole_eq (by rw [x_without]) (by rw [x_without]) ?_
      exact ih _ _ _
    | 9 =>
      refine Ole_eq (by rw [x_without]) (by rw [x_without]) ?_
      exact Ole_ite (Ole_ite (Ole_ob (f_setOf k _ _ _) (fun _ => ih _ _ _)) (ih _ _ _)) (Ole_rf _)
    | 10 =>
      refine Ole_eq (by rw [x_without]) (by rw [x_without]) ?_
      exact Ole_ob (f_tupleOf k _ _ _) (fun _ => ih _ _ _)
    | 11 =>
      refine Ole_eq (by rw [x_without]) (by rw [x_without]) ?_
      exact Ole_rf _
    | b + 12 =>
      refine Ole_eq (by rw [x_without]) (by rw [x_without]) (Ole_no _)
theorem f_takeFrom : ∀ (k b : Nat) (L : Nat → Int32) (σ : MS), Ole (x_takeFrom k b L σ) (x_takeFrom (k + 1) b L σ) := by
  intro k
  induction k with
  | zero => intro b L σ; exact Ole_no _
  | succ k ih =>
    intro b L σ
    match b with
    | 0 =>
      refine Ole_eq (by rw [x_takeFrom]) (by rw [x_takeFrom]) ?_
      exact Ole_ite (Ole_ite (Ole_ob (f_workParts k _ _ _) (fun _ => Ole_ite (Ole_ob (f_workParts k _ _ _) (fun _ => ih _ _ _)) (ih _ _ _))) (Ole_rf _)) (Ole_rf _)
    | 1 =>
      refine Ole_eq (by rw [x_takeFrom]) (by rw [x_takeFrom]) ?_
      exact Ole_ite (Ole_ob (f_readParts k _ _ _) (fun _ => ih _ _ _)) (ih _ _ _)
    | 2 =>
      refine Ole_eq (by rw [x_takeFrom]) (by rw [x_takeFrom]) ?_
      exact Ole_ite (ih _ _ _) (Ole_rf _)
    | 3 =>
      refine Ole_eq (by rw [x_takeFrom]) (by rw [x_takeFrom]) ?_
      exact Ole_ob (f_sweep k _ _ _) (fun _ => Ole_ite (Ole_ob (f_kind k _ _ _) (fun _ => Ole_ite (Ole_ite (Ole_ite (ih _ _ _) (ih _ _ _)) (ih _ _ _)) (Ole_rf _))) (Ole_rf _))
    | 4 =>
      refine Ole_eq (by rw [x_takeFrom]) (by rw [x_takeFrom]) ?_
      exact Ole_ite (ih _ _ _) (Ole_ite (ih _ _ _) (ih _ _ _))
    | 5 =>
      refine Ole_eq (by rw [x_takeFrom]) (by rw [x_takeFrom]) ?_
      exact Ole_ob (f_fail k _ _ _) (fun _ => Ole_rf _)
    | 6 =>
      refine Ole_eq (by rw [x_takeFrom]) (by rw [x_takeFrom]) ?_
      exact Ole_ite (Ole_ob (f_push k _ _ _) (fun _ => Ole_ite (ih _ _ _) (Ole_ite (Ole_ite (ih _ _ _) (ih _ _ _)) (Ole_rf _)))) (Ole_rf _)
    | 7 =>
      refine Ole_eq (by rw [x_takeFrom]) (by rw [x_takeFrom]) ?_
      exact ih _ _ _
    | 8 =>
      refine Ole_eq (by rw [x_takeFrom]) (by rw [x_takeFrom]) ?_
      exact Ole_ob (f_memberAt k _ _ _) (fun _ => Ole_ite (ih _ _ _) (Ole_rf _))
    | 9 =>
      refine Ole_eq (by rw [x_takeFrom]) (by rw [x_takeFrom]) ?_
      exact Ole_ob (f_without k _ _ _) (fun _ => Ole_ob (f_answer k _ _ _) (fun _ => Ole_ob (f_push k _ _ _) (fun _ => Ole_ob (f_write k _ _ _) (fun _ => ih _ _ _))))
    | 10 =>
      refine Ole_eq (by rw [x_takeFrom]) (by rw [x_takeFrom]) ?_
      exact Ole_ob (f_write k _ _ _) (fun _ => Ole_ob (f_pass k _ _ _) (fun _ => Ole_rf _))
    | b + 11 =>
      refine Ole_eq (by rw [x_takeFrom]) (by rw [x_takeFrom]) (Ole_no _)
theorem f_makePoint : ∀ (k b : Nat) (L : Nat → Int32) (σ : MS), Ole (x_makePoint k b L σ) (x_makePoint (k + 1) b L σ) := by
  intro k
  induction k with
  | zero => intro b L σ; exact Ole_no _
  | succ k ih =>
    intro b L σ
    match b with
    | 0 =>
      refine Ole_eq (by rw [x_makePoint]) (by rw [x_makePoint]) ?_
      exact Ole_ite (ih _ _ _) (Ole_ite (ih _ _ _) (ih _ _ _))
    | 1 =>
      refine Ole_eq (by rw [x_makePoint]) (by rw [x_makePoint]) ?_
      exact Ole_ob (f_fail k _ _ _) (fun _ => Ole_rf _)
    | 2 =>
      refine Ole_eq (by rw [x_makePoint]) (by rw [x_makePoint]) ?_
      exact Ole_ite (ih _ _ _) (Ole_rf _)
    | 3 =>
      refine Ole_eq (by rw [x_makePoint]) (by rw [x_makePoint]) ?_
      exact ih _ _ _
    | 4 =>
      refine Ole_eq (by rw [x_makePoint]) (by rw [x_makePoint]) ?_
      exact Ole_ite (ih _ _ _) (Ole_ite (Ole_ite (ih _ _ _) (Ole_rf _)) (Ole_rf _))
    | 5 =>
      refine Ole_eq (by rw [x_makePoint]) (by rw [x_makePoint]) ?_
      exact ih _ _ _
    | 6 =>
      refine Ole_eq (by rw [x_makePoint]) (by rw [x_makePoint]) ?_
      exact Ole_ite (ih _ _ _) (Ole_rf _)
    | 7 =>
      refine Ole_eq (by rw [x_makePoint]) (by rw [x_makePoint]) ?_
      exact ih _ _ _
    | 8 =>
      refine Ole_eq (by rw [x_makePoint]) (by rw [x_makePoint]) ?_
      exact Ole_rf _
    | b + 9 =>
      refine Ole_eq (by rw [x_makePoint]) (by rw [x_makePoint]) (Ole_no _)
theorem f_enter : ∀ (k b : Nat) (L : Nat → Int32) (σ : MS), Ole (x_enter k b L σ) (x_enter (k + 1) b L σ) := by
  intro k
  induction k with
  | zero => intro b L σ; exact Ole_no _
  | succ k ih =>
    intro b L σ
    match b with
    | 0 =>
      refine Ole_eq (by rw [x_enter]) (by rw [x_enter]) ?_
      exact Ole_ite (ih _ _ _) (Ole_ite (ih _ _ _) (Ole_rf _))
    | 1 =>
      refine Ole_eq (by rw [x_enter]) (by rw [x_enter]) ?_
      exact Ole_ob (f_finished k _ _ _) (fun _ => ih _ _ _)
    | 2 =>
      refine Ole_eq (by rw [x_enter]) (by rw [x_enter]) ?_
      exact Ole_rf _
    | b + 3 =>
      refine Ole_eq (by rw [x_enter]) (by rw [x_enter]) (Ole_no _)
theorem f_beginCall : ∀ (k b : Nat) (L : Nat → Int32) (σ : MS), Ole (x_beginCall k b L σ) (x_beginCall (k + 1) b L σ) := by
  intro k
  induction k with
  | zero => intro b L σ; exact Ole_no _
  | succ k ih =>
    intro b L σ
    match b with
    | 0 =>
      refine Ole_eq (by rw [x_beginCall]) (by rw [x_beginCall]) ?_
      exact Ole_ite (Ole_ite (ih _ _ _) (Ole_rf _)) (Ole_rf _)
    | 1 =>
      refine Ole_eq (by rw [x_beginCall]) (by rw [x_beginCall]) ?_
      exact Ole_ite (ih _ _ _) (Ole_ite (Ole_ite (ih _ _ _) (Ole_ob (f_eval k _ _ _) (fun _ => ih _ _ _))) (Ole_rf _))
    | 2 =>
      refine Ole_eq (by rw [x_beginCall]) (by rw [x_beginCall]) ?_
      exact Ole_ob (f_push k _ _ _) (fun _ => ih _ _ _)
    | 3 =>
      refine Ole_eq (by rw [x_beginCall]) (by rw [x_beginCall]) ?_
      exact Ole_ite (ih _ _ _) (Ole_rf _)
    | 4 =>
      refine Ole_eq (by rw [x_beginCall]) (by rw [x_beginCall]) ?_
      exact Ole_ite (ih _ _ _) (Ole_rf _)
    | 5 =>
      refine Ole_eq (by rw [x_beginCall]) (by rw [x_beginCall]) ?_
      exact Ole_ite (Ole_ite (Ole_ob (f_fail k _ _ _) (fun _ => Ole_rf _)) (ih _ _ _)) (Ole_rf _)
    | 6 =>
      refine Ole_eq (by rw [x_beginCall]) (by rw [x_beginCall]) ?_
      exact ih _ _ _
    | 7 =>
      refine Ole_eq (by rw [x_beginCall]) (by rw [x_beginCall]) ?_
      exact Ole_ite (Ole_ite (ih _ _ _) (Ole_ite (Ole_ite (ih _ _ _) (Ole_ite (Ole_ite (ih _ _ _) (Ole_ite (Ole_ob (f_size k _ _ _) (fun _ => ih _ _ _)) (Ole_rf _))) (Ole_rf _))) (Ole_rf _))) (Ole_rf _)
    | 8 =>
      refine Ole_eq (by rw [x_beginCall]) (by rw [x_beginCall]) ?_
      exact ih _ _ _
    | 9 =>
      refine Ole_eq (by rw [x_beginCall]) (by rw [x_beginCall]) ?_
      exact ih _ _ _
    | 10 =>
      refine Ole_eq (by rw [x_beginCall]) (by rw [x_beginCall]) ?_
      exact ih _ _ _
    | 11 =>
      refine Ole_eq (by rw [x_beginCall]) (by rw [x_beginCall]) ?_
      exact Ole_ite (ih _ _ _) (Ole_ob (f_fail k _ _ _) (fun _ => Ole_rf _))
    | 12 =>
      refine Ole_eq (by rw [x_beginCall]) (by rw [x_beginCall]) ?_
      exact ih _ _ _
    | 13 =>
      refine Ole_eq (by rw [x_beginCall]) (by rw [x_beginCall]) ?_
      exact Ole_ite (Ole_ite (ih _ _ _) (Ole_rf _)) (Ole_rf _)
    | 14 =>
      refine Ole_eq (by rw [x_beginCall]) (by rw [x_beginCall]) ?_
      exact Ole_ite (ih _ _ _) (Ole_rf _)
    | 15 =>
      refine Ole_eq (by rw [x_beginCall]) (by rw [x_beginCall]) ?_
      exact Ole_ite (Ole_ite (ih _ _ _) (Ole_rf _)) (Ole_rf _)
    | 16 =>
      refine Ole_eq (by rw [x_beginCall]) (by rw [x_beginCall]) ?_
      exact ih _ _ _
    | 17 =>
      refine Ole_eq (by rw [x_beginCall]) (by rw [x_beginCall]) ?_
      exact Ole_ite (ih _ _ _) (Ole_ite (Ole_ite (ih _ _ _) (Ole_ite (ih _ _ _) (Ole_rf _))) (Ole_rf _))
    | 18 =>
      refine Ole_eq (by rw [x_beginCall]) (by rw [x_beginCall]) ?_
      exact ih _ _ _
    | 19 =>
      refine Ole_eq (by rw [x_beginCall]) (by rw [x_beginCall]) ?_
      exact Ole_ite (ih _ _ _) (Ole_rf _)
    | 20 =>
      refine Ole_eq (by rw [x_beginCall]) (by rw [x_beginCall]) ?_
      exact ih _ _ _
    | 21 =>
      refine Ole_eq (by rw [x_beginCall]) (by rw [x_beginCall]) ?_
      exact ih _ _ _
    | 22 =>
      refine Ole_eq (by rw [x_beginCall]) (by rw [x_beginCall]) ?_
      exact Ole_ite (Ole_ite (ih _ _ _) (Ole_rf _)) (Ole_rf _)
    | 23 =>
      refine Ole_eq (by rw [x_beginCall]) (by rw [x_beginCall]) ?_
      exact Ole_ite (Ole_ob (f_enter k _ _ _) (fun _ => Ole_rf _)) (Ole_rf _)
    | b + 24 =>
      refine Ole_eq (by rw [x_beginCall]) (by rw [x_beginCall]) (Ole_no _)
theorem f_decide : ∀ (k b : Nat) (L : Nat → Int32) (σ : MS), Ole (x_decide k b L σ) (x_decide (k + 1) b L σ) := by
  intro k
  induction k with
  | zero => intro b L σ; exact Ole_no _
  | succ k ih =>
    intro b L σ
    match b with
    | 0 =>
      refine Ole_eq (by rw [x_decide]) (by rw [x_decide]) ?_
      exact ih _ _ _
    | 1 =>
      refine Ole_eq (by rw [x_decide]) (by rw [x_decide]) ?_
      exact Ole_ite (ih _ _ _) (Ole_ite (Ole_ite (Ole_ite (ih _ _ _) (ih _ _ _)) (Ole_rf _)) (ih _ _ _))
    | 2 =>
      refine Ole_eq (by rw [x_decide]) (by rw [x_decide]) ?_
      exact ih _ _ _
    | 3 =>
      refine Ole_eq (by rw [x_decide]) (by rw [x_decide]) ?_
      exact Ole_ite (Ole_ite (Ole_ob (f_makePoint k _ _ _) (fun _ => ih _ _ _)) (ih _ _ _)) (Ole_rf _)
    | 4 =>
      refine Ole_eq (by rw [x_decide]) (by rw [x_decide]) ?_
      exact Ole_ite (Ole_ite (Ole_ob (f_holds k _ _ _) (fun _ => ih _ _ _)) (Ole_rf _)) (ih _ _ _)
    | 5 =>
      refine Ole_eq (by rw [x_decide]) (by rw [x_decide]) ?_
      exact Ole_ite (ih _ _ _) (Ole_rf _)
    | 6 =>
      refine Ole_eq (by rw [x_decide]) (by rw [x_decide]) ?_
      exact Ole_ite (ih _ _ _) (Ole_ite (Ole_ob (f_enter k _ _ _) (fun _ => Ole_rf _)) (Ole_rf _))
    | 7 =>
      refine Ole_eq (by rw [x_decide]) (by rw [x_decide]) ?_
      exact Ole_ite (ih _ _ _) (Ole_rf _)
    | 8 =>
      refine Ole_eq (by rw [x_decide]) (by rw [x_decide]) ?_
      exact Ole_ob (f_pass k _ _ _) (fun _ => Ole_rf _)
    | b + 9 =>
      refine Ole_eq (by rw [x_decide]) (by rw [x_decide]) (Ole_no _)
theorem f_testAgain : ∀ (k b : Nat) (L : Nat → Int32) (σ : MS), Ole (x_testAgain k b L σ) (x_testAgain (k + 1) b L σ) := by
  intro k
  induction k with
  | zero => intro b L σ; exact Ole_no _
  | succ k ih =>
    intro b L σ
    match b with
    | 0 =>
      refine Ole_eq (by rw [x_testAgain]) (by rw [x_testAgain]) ?_
      exact Ole_ite (Ole_ob (f_holds k _ _ _) (fun _ => Ole_ite (ih _ _ _) (Ole_rf _))) (Ole_rf _)
    | 1 =>
      refine Ole_eq (by rw [x_testAgain]) (by rw [x_testAgain]) ?_
      exact Ole_ite (ih _ _ _) (Ole_ite (Ole_ob (f_enter k _ _ _) (fun _ => ih _ _ _)) (Ole_rf _))
    | 2 =>
      refine Ole_eq (by rw [x_testAgain]) (by rw [x_testAgain]) ?_
      exact Ole_ob (f_goOnBehind k _ _ _) (fun _ => ih _ _ _)
    | 3 =>
      refine Ole_eq (by rw [x_testAgain]) (by rw [x_testAgain]) ?_
      exact Ole_rf _
    | b + 4 =>
      refine Ole_eq (by rw [x_testAgain]) (by rw [x_testAgain]) (Ole_no _)
theorem f_beginFor : ∀ (k b : Nat) (L : Nat → Int32) (σ : MS), Ole (x_beginFor k b L σ) (x_beginFor (k + 1) b L σ) := by
  intro k
  induction k with
  | zero => intro b L σ; exact Ole_no _
  | succ k ih =>
    intro b L σ
    match b with
    | 0 =>
      refine Ole_eq (by rw [x_beginFor]) (by rw [x_beginFor]) ?_
      exact Ole_ite (Ole_ite (ih _ _ _) (Ole_rf _)) (Ole_rf _)
    | 1 =>
      refine Ole_eq (by rw [x_beginFor]) (by rw [x_beginFor]) ?_
      exact Ole_ite (Ole_ite (ih _ _ _) (Ole_rf _)) (Ole_rf _)
    | 2 =>
      refine Ole_eq (by rw [x_beginFor]) (by rw [x_beginFor]) ?_
      exact Ole_ite (Ole_ite (ih _ _ _) (Ole_rf _)) (Ole_rf _)
    | 3 =>
      refine Ole_eq (by rw [x_beginFor]) (by rw [x_beginFor]) ?_
      exact Ole_ob (f_seek k _ _ _) (fun _ => Ole_ob (f_goOnBehind k _ _ _) (fun _ => Ole_rf _))
    | b + 4 =>
      refine Ole_eq (by rw [x_beginFor]) (by rw [x_beginFor]) (Ole_no _)
theorem f_loopOf : ∀ (k b : Nat) (L : Nat → Int32) (σ : MS), Ole (x_loopOf k b L σ) (x_loopOf (k + 1) b L σ) := by
  intro k
  induction k with
  | zero => intro b L σ; exact Ole_no _
  | succ k ih =>
    intro b L σ
    match b with
    | 0 =>
      refine Ole_eq (by rw [x_loopOf]) (by rw [x_loopOf]) ?_
      exact Ole_ite (Ole_ite (ih _ _ _) (Ole_rf _)) (Ole_rf _)
    | 1 =>
      refine Ole_eq (by rw [x_loopOf]) (by rw [x_loopOf]) ?_
      exact Ole_ite (Ole_ite (ih _ _ _) (Ole_ite (Ole_ite (ih _ _ _) (Ole_ite (Ole_ite (ih _ _ _) (Ole_rf _)) (Ole_rf _))) (Ole_rf _))) (Ole_rf _)
    | 2 =>
      refine Ole_eq (by rw [x_loopOf]) (by rw [x_loopOf]) ?_
      exact Ole_rf _
    | b + 3 =>
      refine Ole_eq (by rw [x_loopOf]) (by rw [x_loopOf]) (Ole_no _)
theorem f_leave : ∀ (k b : Nat) (L : Nat → Int32) (σ : MS), Ole (x_leave k b L σ) (x_leave (k + 1) b L σ) := by
  intro k
  induction k with
  | zero => intro b L σ; exact Ole_no _
  | succ k ih =>
    intro b L σ
    match b with
    | 0 =>
      refine Ole_eq (by rw [x_leave]) (by rw [x_leave]) ?_
      exact Ole_ob (f_loopOf k _ _ _) (fun _ => Ole_ite (Ole_ite (ih _ _ _) (ih _ _ _)) (Ole_rf _))
    | 1 =>
      refine Ole_eq (by rw [x_leave]) (by rw [x_leave]) ?_
      exact ih _ _ _
    | 2 =>
      refine Ole_eq (by rw [x_leave]) (by rw [x_leave]) ?_
      exact Ole_ite (Ole_ite (Ole_ite (ih _ _ _) (Ole_ob (f_closeFor k _ _ _) (fun _ => ih _ _ _))) (ih _ _ _)) (Ole_rf _)
    | 3 =>
      refine Ole_eq (by rw [x_leave]) (by rw [x_leave]) ?_
      exact Ole_ite (ih _ _ _) (ih _ _ _)
    | 4 =>
      refine Ole_eq (by rw [x_leave]) (by rw [x_leave]) ?_
      exact Ole_ob (f_seek k _ _ _) (fun _ => ih _ _ _)
    | 5 =>
      refine Ole_eq (by rw [x_leave]) (by rw [x_leave]) ?_
      exact Ole_ob (f_goOnBehind k _ _ _) (fun _ => ih _ _ _)
    | 6 =>
      refine Ole_eq (by rw [x_leave]) (by rw [x_leave]) ?_
      exact Ole_ite (ih _ _ _) (Ole_ob (f_goOnBehind k _ _ _) (fun _ => ih _ _ _))
    | 7 =>
      refine Ole_eq (by rw [x_leave]) (by rw [x_leave]) ?_
      exact Ole_ite (ih _ _ _) (Ole_rf _)
    | 8 =>
      refine Ole_eq (by rw [x_leave]) (by rw [x_leave]) ?_
      exact Ole_rf _
    | b + 9 =>
      refine Ole_eq (by rw [x_leave]) (by rw [x_leave]) (Ole_no _)
theorem f_returns : ∀ (k b : Nat) (L : Nat → Int32) (σ : MS), Ole (x_returns k b L σ) (x_returns (k + 1) b L σ) := by
  intro k
  induction k with
  | zero => intro b L σ; exact Ole_no _
  | succ k ih =>
    intro b L σ
    match b with
    | 0 =>
      refine Ole_eq (by rw [x_returns]) (by rw [x_returns]) ?_
      exact Ole_ite (Ole_ite (ih _ _ _) (Ole_ite (Ole_ob (f_eval k _ _ _) (fun _ => Ole_ite (ih _ _ _) (ih _ _ _))) (Ole_rf _))) (Ole_rf _)
    | 1 =>
      refine Ole_eq (by rw [x_returns]) (by rw [x_returns]) ?_
      exact Ole_ob (f_pop k _ _ _) (fun _ => ih _ _ _)
    | 2 =>
      refine Ole_eq (by rw [x_returns]) (by rw [x_returns]) ?_
      exact ih _ _ _
    | 3 =>
      refine Ole_eq (by rw [x_returns]) (by rw [x_returns]) ?_
      exact Ole_ite (Ole_ob (f_giveBack k _ _ _) (fun _ => Ole_ob (f_goOnBehind k _ _ _) (fun _ => ih _ _ _))) (ih _ _ _)
    | 4 =>
      refine Ole_eq (by rw [x_returns]) (by rw [x_returns]) ?_
      exact Ole_rf _
    | b + 5 =>
      refine Ole_eq (by rw [x_returns]) (by rw [x_returns]) (Ole_no _)
theorem f_putOut : ∀ (k b : Nat) (L : Nat → Int32) (σ : MS), Ole (x_putOut k b L σ) (x_putOut (k + 1) b L σ) := by
  intro k
  induction k with
  | zero => intro b L σ; exact Ole_no _
  | succ k ih =>
    intro b L σ
    match b with
    | 0 =>
      refine Ole_eq (by rw [x_putOut]) (by rw [x_putOut]) ?_
      exact Ole_ite (ih _ _ _) (Ole_ite (ih _ _ _) (Ole_rf _))
    | 1 =>
      refine Ole_eq (by rw [x_putOut]) (by rw [x_putOut]) ?_
      exact Ole_ite (ih _ _ _) (ih _ _ _)
    | 2 =>
      refine Ole_eq (by rw [x_putOut]) (by rw [x_putOut]) ?_
      exact ih _ _ _
    | 3 =>
      refine Ole_eq (by rw [x_putOut]) (by rw [x_putOut]) ?_
      exact Ole_rf _
    | b + 4 =>
      refine Ole_eq (by rw [x_putOut]) (by rw [x_putOut]) (Ole_no _)
theorem f_prints : ∀ (k b : Nat) (L : Nat → Int32) (σ : MS), Ole (x_prints k b L σ) (x_prints (k + 1) b L σ) := by
  intro k
  induction k with
  | zero => intro b L σ; exact Ole_no _
  | succ k ih =>
    intro b L σ
    match b with
    | 0 =>
      refine Ole_eq (by rw [x_prints]) (by rw [x_prints]) ?_
      exact Ole_ite (ih _ _ _) (Ole_rf _)
    | 1 =>
      refine Ole_eq (by rw [x_prints]) (by rw [x_prints]) ?_
      exact Ole_ite (ih _ _ _) (Ole_ite (Ole_ob (f_eval k _ _ _) (fun _ => Ole_ite (ih _ _ _) (Ole_rf _))) (ih _ _ _))
    | 2 =>
      refine Ole_eq (by rw [x_prints]) (by rw [x_prints]) ?_
      exact Ole_ite (ih _ _ _) (Ole_rf _)
    | 3 =>
      refine Ole_eq (by rw [x_prints]) (by rw [x_prints]) ?_
      exact ih _ _ _
    | 4 =>
      refine Ole_eq (by rw [x_prints]) (by rw [x_prints]) ?_
      exact Ole_ite (ih _ _ _) (ih _ _ _)
    | 5 =>
      refine Ole_eq (by rw [x_prints]) (by rw [x_prints]) ?_
      exact Ole_ite (Ole_ob (f_print k _ _ _) (fun _ => ih _ _ _)) (Ole_rf _)
    | 6 =>
      refine Ole_eq (by rw [x_prints]) (by rw [x_prints]) ?_
      exact Ole_ite (ih _ _ _) (Ole_ite (Ole_ob (f_putOut k _ _ _) (fun _ => ih _ _ _)) (Ole_rf _))
    | 7 =>
      refine Ole_eq (by rw [x_prints]) (by rw [x_prints]) ?_
      exact Ole_ite (ih _ _ _) (ih _ _ _)
    | 8 =>
      refine Ole_eq (by rw [x_prints]) (by rw [x_prints]) ?_
      exact ih _ _ _
    | 9 =>
      refine Ole_eq (by rw [x_prints]) (by rw [x_prints]) ?_
      exact Ole_ob (f_putOut k _ _ _) (fun _ => ih _ _ _)
    | 10 =>
      refine Ole_eq (by rw [x_prints]) (by rw [x_prints]) ?_
      exact Ole_ob (f_pass k _ _ _) (fun _ => Ole_rf _)
    | b + 11 =>
      refine Ole_eq (by rw [x_prints]) (by rw [x_prints]) (Ole_no _)
theorem f_succeed : ∀ (k b : Nat) (L : Nat → Int32) (σ : MS), Ole (x_succeed k b L σ) (x_succeed (k + 1) b L σ) := by
  intro k
  induction k with
  | zero => intro b L σ; exact Ole_no _
  | succ k ih =>
    intro b L σ
    match b with
    | 0 =>
      refine Ole_eq (by rw [x_succeed]) (by rw [x_succeed]) ?_
      exact Ole_ite (Ole_ob (f_fail k _ _ _) (fun _ => Ole_rf _)) (ih _ _ _)
    | 1 =>
      refine Ole_eq (by rw [x_succeed]) (by rw [x_succeed]) ?_
      exact ih _ _ _
    | 2 =>
      refine Ole_eq (by rw [x_succeed]) (by rw [x_succeed]) ?_
      exact Ole_ite (ih _ _ _) (Ole_rf _)
    | 3 =>
      refine Ole_eq (by rw [x_succeed]) (by rw [x_succeed]) ?_
      exact Ole_ob (f_pass k _ _ _) (fun _ => Ole_rf _)
    | b + 4 =>
      refine Ole_eq (by rw [x_succeed]) (by rw [x_succeed]) (Ole_no _)
theorem f_backTrack : ∀ (k b : Nat) (L : Nat → Int32) (σ : MS), Ole (x_backTrack k b L σ) (x_backTrack (k + 1) b L σ) := by
  intro k
  induction k with
  | zero => intro b L σ; exact Ole_no _
  | succ k ih =>
    intro b L σ
    match b with
    | 0 =>
      refine Ole_eq (by rw [x_backTrack]) (by rw [x_backTrack]) ?_
      exact Ole_ite (Ole_ob (f_fail k _ _ _) (fun _ => Ole_rf _)) (ih _ _ _)
    | 1 =>
      refine Ole_eq (by rw [x_backTrack]) (by rw [x_backTrack]) ?_
      exact ih _ _ _
    | 2 =>
      refine Ole_eq (by rw [x_backTrack]) (by rw [x_backTrack]) ?_
      exact Ole_ite (ih _ _ _) (Ole_rf _)
    | 3 =>
      refine Ole_eq (by rw [x_backTrack]) (by rw [x_backTrack]) ?_
      exact ih _ _ _
    | 4 =>
      refine Ole_eq (by rw [x_backTrack]) (by rw [x_backTrack]) ?_
      exact Ole_ite (ih _ _ _) (Ole_ite (Ole_ite (ih _ _ _) (Ole_rf _)) (Ole_rf _))
    | 5 =>
      refine Ole_eq (by rw [x_backTrack]) (by rw [x_backTrack]) ?_
      exact ih _ _ _
    | 6 =>
      refine Ole_eq (by rw [x_backTrack]) (by rw [x_backTrack]) ?_
      exact Ole_ite (ih _ _ _) (Ole_rf _)
    | 7 =>
      refine Ole_eq (by rw [x_backTrack]) (by rw [x_backTrack]) ?_
      exact Ole_ite (Ole_ite (Ole_ite (Ole_ite (Ole_ob (f_assign k _ _ _) (fun _ => Ole_ob (f_pass k _ _ _) (fun _ => ih _ _ _))) (Ole_rf _)) (ih _ _ _)) (Ole_rf _)) (Ole_rf _)
    | 8 =>
      refine Ole_eq (by rw [x_backTrack]) (by rw [x_backTrack]) ?_
      exact Ole_ite (Ole_ite (Ole_ob (f_decide k _ _ _) (fun _ => ih _ _ _)) (Ole_rf _)) (Ole_rf _)
    | 9 =>
      refine Ole_eq (by rw [x_backTrack]) (by rw [x_backTrack]) ?_
      exact Ole_rf _
    | b + 10 =>
      refine Ole_eq (by rw [x_backTrack]) (by rw [x_backTrack]) (Ole_no _)
theorem f_forget : ∀ (k b : Nat) (L : Nat → Int32) (σ : MS), Ole (x_forget k b L σ) (x_forget (k + 1) b L σ) := by
  intro k
  induction k with
  | zero => intro b L σ; exact Ole_no _
  | succ k ih =>
    intro b L σ
    match b with
    | 0 =>
      refine Ole_eq (by rw [x_forget]) (by rw [x_forget]) ?_
      exact ih _ _ _
    | 1 =>
      refine Ole_eq (by rw [x_forget]) (by rw [x_forget]) ?_
      exact Ole_ite (ih _ _ _) (Ole_ite (ih _ _ _) (Ole_rf _))
    | 2 =>
      refine Ole_eq (by rw [x_forget]) (by rw [x_forget]) ?_
      exact ih _ _ _
    | 3 =>
      refine Ole_eq (by rw [x_forget]) (by rw [x_forget]) ?_
      exact ih _ _ _
    | 4 =>
      refine Ole_eq (by rw [x_forget]) (by rw [x_forget]) ?_
      exact Ole_ite (ih _ _ _) (Ole_ite (Ole_ite (ih _ _ _) (Ole_ite (ih _ _ _) (Ole_rf _))) (Ole_rf _))
    | 5 =>
      refine Ole_eq (by rw [x_forget]) (by rw [x_forget]) ?_
      exact ih _ _ _
    | 6 =>
      refine Ole_eq (by rw [x_forget]) (by rw [x_forget]) ?_
      exact Ole_ite (ih _ _ _) (Ole_rf _)
    | 7 =>
      refine Ole_eq (by rw [x_forget]) (by rw [x_forget]) ?_
      exact ih _ _ _
    | 8 =>
      refine Ole_eq (by rw [x_forget]) (by rw [x_forget]) ?_
      exact ih _ _ _
    | 9 =>
      refine Ole_eq (by rw [x_forget]) (by rw [x_forget]) ?_
      exact Ole_ite (Ole_ite (ih _ _ _) (Ole_ite (ih _ _ _) (Ole_rf _))) (Ole_rf _)
    | 10 =>
      refine Ole_eq (by rw [x_forget]) (by rw [x_forget]) ?_
      exact Ole_ite (ih _ _ _) (Ole_ite (Ole_ite (ih _ _ _) (Ole_ite (ih _ _ _) (Ole_rf _))) (Ole_rf _))
    | 11 =>
      refine Ole_eq (by rw [x_forget]) (by rw [x_forget]) ?_
      exact ih _ _ _
    | 12 =>
      refine Ole_eq (by rw [x_forget]) (by rw [x_forget]) ?_
      exact Ole_ite (ih _ _ _) (Ole_rf _)
    | 13 =>
      refine Ole_eq (by rw [x_forget]) (by rw [x_forget]) ?_
      exact ih _ _ _
    | 14 =>
      refine Ole_eq (by rw [x_forget]) (by rw [x_forget]) ?_
      exact ih _ _ _
    | 15 =>
      refine Ole_eq (by rw [x_forget]) (by rw [x_forget]) ?_
      exact Ole_rf _
    | b + 16 =>
      refine Ole_eq (by rw [x_forget]) (by rw [x_forget]) (Ole_no _)
theorem f_begin : ∀ (k b : Nat) (L : Nat → Int32) (σ : MS), Ole (x_begin k b L σ) (x_begin (k + 1) b L σ) := by
  intro k
  induction k with
  | zero => intro b L σ; exact Ole_no _
  | succ k ih =>
    intro b L σ
    match b with
    | 0 =>
      refine Ole_eq (by rw [x_begin]) (by rw [x_begin]) ?_
      exact ih _ _ _
    | 1 =>
      refine Ole_eq (by rw [x_begin]) (by rw [x_begin]) ?_
      exact Ole_ite (Ole_ite (ih _ _ _) (Ole_rf _)) (Ole_rf _)
    | 2 =>
      refine Ole_eq (by rw [x_begin]) (by rw [x_begin]) ?_
      exact ih _ _ _
    | 3 =>
      refine Ole_eq (by rw [x_begin]) (by rw [x_begin]) ?_
      exact ih _ _ _
    | 4 =>
      refine Ole_eq (by rw [x_begin]) (by rw [x_begin]) ?_
      exact ih _ _ _
    | 5 =>
      refine Ole_eq (by rw [x_begin]) (by rw [x_begin]) ?_
      exact ih _ _ _
    | 6 =>
      refine Ole_eq (by rw [x_begin]) (by rw [x_begin]) ?_
      exact ih _ _ _
    | 7 =>
      refine Ole_eq (by rw [x_begin]) (by rw [x_begin]) ?_
      exact ih _ _ _
    | 8 =>
      refine Ole_eq (by rw [x_begin]) (by rw [x_begin]) ?_
      exact ih _ _ _
    | 9 =>
      refine Ole_eq (by rw [x_begin]) (by rw [x_begin]) ?_
      exact Ole_ob (f_sweep k _ _ _) (fun _ => Ole_ite (Ole_ite (ih _ _ _) (Ole_ite (ih _ _ _) (Ole_ite (ih _ _ _) (Ole_ite (ih _ _ _) (Ole_ite (ih _ _ _) (Ole_ite (ih _ _ _) (Ole_ite (ih _ _ _) (Ole_ite (ih _ _ _) (Ole_ite (ih _ _ _) (Ole_ite (ih _ _ _) (Ole_ite (ih _ _ _) (Ole_ite (ih _ _ _) (Ole_ite (ih _ _ _) (Ole_ite (ih _ _ _) (Ole_ite (ih _ _ _) (Ole_ite (ih _ _ _) (ih _ _ _))))))))))))))))) (Ole_rf _))
    | 10 =>
      refine Ole_eq (by rw [x_begin]) (by rw [x_begin]) ?_
      exact Ole_ob (f_assignTo k _ _ _) (fun _ => ih _ _ _)
    | 11 =>
      refine Ole_eq (by rw [x_begin]) (by rw [x_begin]) ?_
      exact Ole_ob (f_partsTo k _ _ _) (fun _ => ih _ _ _)
    | 12 =>
      refine Ole_eq (by rw [x_begin]) (by rw [x_begin]) ?_
      exact Ole_ob (f_takeFrom k _ _ _) (fun _ => ih _ _ _)
    | 13 =>
      refine Ole_eq (by rw [x_begin]) (by rw [x_begin]) ?_
      exact Ole_ob (f_makePoint k _ _ _) (fun _ => Ole_ite (Ole_ob (f_assign k _ _ _) (fun _ => Ole_ob (f_pass k _ _ _) (fun _ => ih _ _ _))) (Ole_rf _))
    | 14 =>
      refine Ole_eq (by rw [x_begin]) (by rw [x_begin]) ?_
      exact Ole_ob (f_beginCall k _ _ _) (fun _ => ih _ _ _)
    | 15 =>
      refine Ole_eq (by rw [x_begin]) (by rw [x_begin]) ?_
      exact Ole_ite (Ole_ob (f_decide k _ _ _) (fun _ => ih _ _ _)) (Ole_rf _)
    | 16 =>
      refine Ole_eq (by rw [x_begin]) (by rw [x_begin]) ?_
      exact Ole_ob (f_testAgain k _ _ _) (fun _ => ih _ _ _)
    | 17 =>
      refine Ole_eq (by rw [x_begin]) (by rw [x_begin]) ?_
      exact Ole_ob (f_beginFor k _ _ _) (fun _ => ih _ _ _)
    | 18 =>
      refine Ole_eq (by rw [x_begin]) (by rw [x_begin]) ?_
      exact Ole_ob (f_leave k _ _ _) (fun _ => ih _ _ _)
    | 19 =>
      refine Ole_eq (by rw [x_begin]) (by rw [x_begin]) ?_
      exact Ole_ob (f_returns k _ _ _) (fun _ => ih _ _ _)
    | 20 =>
      refine Ole_eq (by rw [x_begin]) (by rw [x_begin]) ?_
      exact Ole_ob (f_prints k _ _ _) (fun _ => ih _ _ _)
    | 21 =>
      refine Ole_eq (by rw [x_begin]) (by rw [x_begin]) ?_
      exact Ole_ite (Ole_ob (f_holds k _ _ _) (fun _ => Ole_ite (Ole_ob (f_fail k _ _ _) (fun _ => ih _ _ _)) (ih _ _ _))) (Ole_rf _)
    | 22 =>
      refine Ole_eq (by rw [x_begin]) (by rw [x_begin]) ?_
      exact Ole_ob (f_pass k _ _ _) (fun _ => ih _ _ _)
    | 23 =>
      refine Ole_eq (by rw [x_begin]) (by rw [x_begin]) ?_
      exact ih _ _ _
    | 24 =>
      refine Ole_eq (by rw [x_begin]) (by rw [x_begin]) ?_
      exact Ole_ob (f_succeed k _ _ _) (fun _ => ih _ _ _)
    | 25 =>
      refine Ole_eq (by rw [x_begin]) (by rw [x_begin]) ?_
      exact Ole_ob (f_backTrack k _ _ _) (fun _ => ih _ _ _)
    | 26 =>
      refine Ole_eq (by rw [x_begin]) (by rw [x_begin]) ?_
      exact ih _ _ _
    | 27 =>
      refine Ole_eq (by rw [x_begin]) (by rw [x_begin]) ?_
      exact Ole_ite (ih _ _ _) (ih _ _ _)
    | 28 =>
      refine Ole_eq (by rw [x_begin]) (by rw [x_begin]) ?_
      exact ih _ _ _
    | 29 =>
      refine Ole_eq (by rw [x_begin]) (by rw [x_begin]) ?_
      exact Ole_ob (f_forget k _ _ _) (fun _ => ih _ _ _)
    | 30 =>
      refine Ole_eq (by rw [x_begin]) (by rw [x_begin]) ?_
      exact Ole_rf _
    | b + 31 =>
      refine Ole_eq (by rw [x_begin]) (by rw [x_begin]) (Ole_no _)
theorem f_workAlone : ∀ (k b : Nat) (L : Nat → Int32) (σ : MS), Ole (x_workAlone k b L σ) (x_workAlone (k + 1) b L σ) := by
  intro k
  induction k with
  | zero => intro b L σ; exact Ole_no _
  | succ k ih =>
    intro b L σ
    match b with
    | 0 =>
      refine Ole_eq (by rw [x_workAlone]) (by rw [x_workAlone]) ?_
      exact ih _ _ _
    | 1 =>
      refine Ole_eq (by rw [x_workAlone]) (by rw [x_workAlone]) ?_
      exact ih _ _ _
    | 2 =>
      refine Ole_eq (by rw [x_workAlone]) (by rw [x_workAlone]) ?_
      exact ih _ _ _
    | 3 =>
      refine Ole_eq (by rw [x_workAlone]) (by rw [x_workAlone]) ?_
      exact ih _ _ _
    | 4 =>
      refine Ole_eq (by rw [x_workAlone]) (by rw [x_workAlone]) ?_
      exact ih _ _ _
    | 5 =>
      refine Ole_eq (by rw [x_workAlone]) (by rw [x_workAlone]) ?_
      exact ih _ _ _
    | 6 =>
      refine Ole_eq (by rw [x_workAlone]) (by rw [x_workAlone]) ?_
      exact ih _ _ _
    | 7 =>
      refine Ole_eq (by rw [x_workAlone]) (by rw [x_workAlone]) ?_
      exact ih _ _ _
    | 8 =>
      refine Ole_eq (by rw [x_workAlone]) (by rw [x_workAlone]) ?_
      exact Ole_ob (f_sweep k _ _ _) (fun _ => Ole_ob (f_eval k _ _ _) (fun _ => ih _ _ _))
    | 9 =>
      refine Ole_eq (by rw [x_workAlone]) (by rw [x_workAlone]) ?_
      exact Ole_ite (ih _ _ _) (Ole_ob (f_forget k _ _ _) (fun _ => ih _ _ _))
    | 10 =>
      refine Ole_eq (by rw [x_workAlone]) (by rw [x_workAlone]) ?_
      exact Ole_rf _
    | b + 11 =>
      refine Ole_eq (by rw [x_workAlone]) (by rw [x_workAlone]) (Ole_no _)
